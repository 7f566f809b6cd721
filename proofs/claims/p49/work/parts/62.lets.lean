/-! ===== calls that are let: what they answer, what they leave ===== -/
def lOk9 (v : Value) (S' : cS) (h : mH) (n : Nat) : Option Value → mH → Nat → Prop := fun w h' n' => w = some v ∧ n' = n ∧ cAt h' S' ∧ ∀ j, 27 ≤ j → h' j = h j
theorem mC.good {l : Launch} {M : mM} {R : Room} {av : List Value} {h : mH} {n : Nat} {o : Nat × Value × cS} {v : Value} {S' : cS} (hC : mC l M R av h n (cOk o h n) (cNo o.1 h n)) (ho : o = (0, v, S')) : mC l M R av h n (lOk9 v S' h n) mNX := by
  subst ho
  exact hC.weaken (fun w h' n' hk => ⟨hk.2.1, hk.2.2.1, hk.2.2.2.1, hk.2.2.2.2⟩) (fun E h' n' hk => by
    obtain ⟨h1, -, -⟩ := hk
    rcases h1 with ⟨-, z⟩ | ⟨-, z⟩ <;> cases z)
/-- any call: it returns an int, or throws one of the two -/
theorem mC.any {l : Launch} {M : mM} {R : Room} {av : List Value} {h : mH} {n : Nat} {o : Nat × Value × cS} {a b : Bool} (hC : mC l M R av h n (cOk o h n) (cNo o.1 h n)) (hi : oI vI a b o) : mC l M R av h n (fun w h' n' => (∃ x, w = some (.int x)) ∧ n' = n ∧ cAt h' o.2.2 ∧ ∀ j, 27 ≤ j → h' j = h j) (fun E h' n' => (E = eI ∨ E = eA) ∧ h' = h ∧ n' = n) :=
  hC.weaken (fun w h' n' hk => by
    obtain ⟨h0, h1, h2, h3, h4⟩ := hk
    refine ⟨?_, h2, h3, h4⟩
    rcases hi with ⟨-, x, z⟩ | ⟨z, -⟩ | ⟨z, -⟩
    · exact ⟨x, by rw [h1, z]⟩
    · rw [h0] at z; cases z
    · rw [h0] at z; cases z) (fun E h' n' hk => by
    obtain ⟨h1, h2, h3⟩ := hk
    refine ⟨?_, h2, h3⟩
    rcases h1 with ⟨z, -⟩ | ⟨z, -⟩
    · exact Or.inl z
    · exact Or.inr z)
section LETS
variable {S : cS} {r q p : Nat}
theorem g_many (hr : r < 4) : sp_many S (nI r) = (0, .int (nI (S.1 r).length), S) := dAt_s hr (by decide)
theorem g_right (hr : r < 4) : sp_right S (nI r) = (0, .int (q_rightPairs (S.1 r)), S) := dAt_s hr (by decide)
theorem g_ties (hr : r < 4) : sp_ties S (nI r) = (0, .int (q_tiedPairsOfSorted (msort (S.1 r)).1), S) := dAt_s hr (by decide)
theorem g_isSorted (hr : r < 4) : sp_isSorted S (nI r) = (0, .int (mb (q_isRising (S.1 r))), S) := dAt_s hr (by decide)
theorem g_isFalling (hr : r < 4) : sp_isFalling S (nI r) = (0, .int (mb (q_fallsThroughout (S.1 r))), S) := dAt_s hr (by decide)
theorem g_runs (hr : r < 4) : sp_runs S (nI r) = (0, .int (q_runsInAll (S.1 r)), S) := dAt_s hr (by decide)
theorem g_longest (hr : r < 4) : sp_longest S (nI r) = (0, .int (q_longestRun (S.1 r)), S) := dAt_s hr (by decide)
theorem g_unlike (hr : r < 4) : sp_unlike S (nI r) = (0, .int (q_unlikeKeysOfSorted (msort (S.1 r)).1), S) := dAt_s hr (by decide)
theorem g_wrong0 (hr : r < 4) : sp_wrong S (nI r) (nI 0) = (0, .int (msort (S.1 r)).2, S) := (dAt_s hr (by decide)).trans (if_pos rfl)
theorem g_wrong1 (hr : r < 4) : sp_wrong S (nI r) (nI 1) = (0, .int (q_wrongPairs (S.1 r)), S) := (dAt_s hr (by decide)).trans ((if_neg (by decide)).trans (if_pos rfl))
theorem g_end (hr : r < 4) : sp_end S (nI r) false = (0, .int (q_leastKey (S.1 r)), S) := dAt_s hr (by decide)
theorem g_mark (hr : r < 4) : sp_mark S (nI r) true = (0, .int (q_mark (S.1 r) true), S) := dAt_s hr (by decide)
theorem g_sort (hr : r < 4) : sp_sort S (nI r) = (0, .int (q_otherItems (S.1 r) (msort (S.1 r)).1), cAct (cSet S r (msort (S.1 r)).1)) := dAt_s hr (by decide)
theorem g_turn (hr : r < 4) : sp_turn S (nI r) = (0, .int (q_otherKeys (S.1 r) (rv (S.1 r) (S.1 r).length)), cAct (cSet S r (rv (S.1 r) (S.1 r).length))) := dAt_s hr (by decide)
theorem g_key (hS : lenOk S) (hr : r < 4) (hp : p < (S.1 r).length) : sp_key S (nI r) (nI p) = (0, .int (xk (S.1 r) p), S) := (dAt_s hr (by decide)).trans (dAt_s hp (by have := hS.lt hr; omega))
theorem g_stamp (hS : lenOk S) (hr : r < 4) (hp : p < (S.1 r).length) : sp_stamp S (nI r) (nI p) = (0, .int (xt (S.1 r) p), S) := (dAt_s hr (by decide)).trans (dAt_s hp (by have := hS.lt hr; omega))
theorem g_rank (hS : lenOk S) (hr : r < 4) (hp : p < (S.1 r).length) : sp_rank S (nI r) (nI p) = (0, .int (nI (rankf (S.1 r) p)), S) := (dAt_s hr (by decide)).trans (dAt_s hp (by have := hS.lt hr; omega))
theorem g_would (hS : lenOk S) (hr : r < 4) (hp : p < (S.1 r).length) : sp_would S (nI r) (nI p) = (0, .int (xk (msort (S.1 r)).1 p), S) := (dAt_s hr (by decide)).trans (dAt_s hp (by have := hS.lt hr; omega))
theorem g_wouldStamp (hS : lenOk S) (hr : r < 4) (hp : p < (S.1 r).length) : sp_wouldStamp S (nI r) (nI p) = (0, .int (xt (msort (S.1 r)).1 p), S) := (dAt_s hr (by decide)).trans (dAt_s hp (by have := hS.lt hr; omega))
theorem g_wrongAt (hS : lenOk S) (hr : r < 4) (hp : p < (S.1 r).length) : sp_wrongAt S (nI r) (nI p) = (0, .int (q_wrongPairsWith (S.1 r) p), S) := (dAt_s hr (by decide)).trans (dAt_s hp (by have := hS.lt hr; omega))
theorem g_runAt (hS : lenOk S) (hr : r < 4) (hp : p < (S.1 r).length) : sp_runAt S (nI r) (nI p) = (0, .int (nI (q_endOfRun (S.1 r) p - p)), S) := (dAt_s hr (by decide)).trans (dAt_s hp (by have := hS.lt hr; omega))
theorem g_after (hS : lenOk S) (hr : r < 4) (hp : p + 1 < (S.1 r).length) : sp_after S (nI r) (nI p) = (0, .int ((msort (S.1 r)).2 + q_wrongerByExchange (S.1 r) p), S) := (dAt_s hr (by decide)).trans (dAt_s (show p < (S.1 r).length - 1 by omega) (by have := hS.lt hr; omega))
theorem g_exchange (hS : lenOk S) (hr : r < 4) (hp : p + 1 < (S.1 r).length) : sp_exchange S (nI r) (nI p) = (0, .int (q_wrongerByExchange (S.1 r) p), cAct (cSet S r (swp (S.1 r) p (p + 1)))) := (dAt_s hr (by decide)).trans (dAt_s (show p < (S.1 r).length - 1 by omega) (by have := hS.lt hr; omega))
theorem g_count (hr : r < 4) : sp_count S (nI r) (nI 0) = (0, .int (q_itemsWith (S.1 r) (nI 0)), S) := (dAt_s hr (by decide)).trans (dFit_s (by decide))
theorem g_below (hr : r < 4) : sp_below S (nI r) (nI 99999) = (0, .int (q_itemsBelow (S.1 r) (nI 99999)), S) := (dAt_s hr (by decide)).trans (dFit_s (by decide))
theorem g_first (hr : r < 4) : sp_first S (nI r) (nI 0) false = (0, .int (q_firstPlaceOf (S.1 r) (nI 0)), S) := (dAt_s hr (by decide)).trans (dFit_s (by decide))
theorem g_last (hr : r < 4) : sp_first S (nI r) (nI 0) true = (0, .int (q_lastPlaceOf (S.1 r) (nI 0)), S) := (dAt_s hr (by decide)).trans (dFit_s (by decide))
theorem g_same (hr : r < 4) (hq : q < 4) : sp_same S (nI r) (nI q) = (0, .int (mb (decide ((S.1 r).length = (S.1 q).length) && decide (q_otherKeys (S.1 r) (S.1 q) = 0))), S) := (dAt_s hr (by decide)).trans (dAt_s hq (by decide))
theorem g_bag (hr : r < 4) (hq : q < 4) : sp_bag S (nI r) (nI q) = (0, .int (mb (decide ((S.1 r).length = (S.1 q).length) && decide (q_otherKeys (msort (S.1 r)).1 (msort (S.1 q)).1 = 0))), S) := (dAt_s hr (by decide)).trans (dAt_s hq (by decide))
theorem g_sameT (hS : lenOk S) (hr : r < 4) (hq : q < 4) (hk : ks (S.1 r) = ks (S.1 q)) : sp_same S (nI r) (nI q) = (0, .int (mb true), S) := by rw [g_same hr hq, lf_same (hS.le hr) hk]
theorem g_bagT (hS : lenOk S) (hr : r < 4) (hq : q < 4) (hk : (ks (S.1 r)).Perm (ks (S.1 q))) : sp_bag S (nI r) (nI q) = (0, .int (mb true), S) := by rw [g_bag hr hq, lf_bag (hS.le hr) hk]
theorem g_fill {m b : Nat} {a : Int32} (hr : r < 4) (hm : m < rroom r + 1) (hp : p < 8) (ha : aOk a = true) (hb : b < 100) (hb0 : 0 < b) : sp_fill S (nI r) (nI m) (nI p) a (nI b) = (0, .int (nI (S.1 r).length), cAct (cGiv (cSet S r (fillL p m a b (decide (r < 2)) S.2.1).1) (fillL p m a b (decide (r < 2)) S.2.1).2)) :=
  (dAt_s hr (by decide)).trans ((dArg_s hm (by have := @rroom_le r; omega)).trans ((dArg_s hp (by decide)).trans ((dFit_s ha).trans (dB_s hb hb0))))
theorem g_copyS (hr : r < 4) : sp_copy S (nI r) (nI r) = (0, .int (nI (S.1 r).length), cAct S) := (dAt_s hr (by decide)).trans ((dAt_s hr (by decide)).trans (if_pos rfl))
theorem g_copyN (hr : r < 4) (hq : q < 4) (h1 : r ≠ q) (h2 : rroom q < (S.1 r).length) : sp_copy S (nI r) (nI q) = (0, .int (-9), cRef S) := (dAt_s hr (by decide)).trans ((dAt_s hq (by decide)).trans ((if_neg h1).trans (if_pos h2)))
theorem g_copyY (hr : r < 4) (hq : q < 4) (h1 : r ≠ q) (h2 : ¬ rroom q < (S.1 r).length) : sp_copy S (nI r) (nI q) = (0, .int (nI (S.1 r).length), cAct (cGiv (cSet S q (bringL (S.1 r) (decide (q < 2)) (decide (r < 2)) [] S.2.1).1) (bringL (S.1 r) (decide (q < 2)) (decide (r < 2)) [] S.2.1).2)) :=
  (dAt_s hr (by decide)).trans ((dAt_s hq (by decide)).trans ((if_neg h1).trans ((if_neg h2).trans (by rw [bringL_len, List.length_nil, Nat.zero_add]))))
theorem g_join (hr : r < 4) (hq : q < 4) (h2 : ¬ rroom r - (S.1 r).length < (S.1 q).length) : sp_join S (nI r) (nI q) = (0, .int (nI ((S.1 r).length + (S.1 q).length)), cAct (cGiv (cSet S r (bringL (S.1 q) (decide (r < 2)) (decide (q < 2)) (S.1 r) S.2.1).1) (bringL (S.1 q) (decide (r < 2)) (decide (q < 2)) (S.1 r) S.2.1).2)) :=
  (dAt_s hr (by decide)).trans ((dAt_s hq (by decide)).trans ((if_neg h2).trans (by rw [bringL_len])))
/-- rows 0 and 1, both in order -/
theorem g_merge (hr : r < 2) (hq : q < 2) (k1 : kSorted (S.1 r)) (k2 : kSorted (S.1 q)) (h2 : ¬ rroom r - (S.1 r).length < (S.1 q).length) : sp_merge S (nI r) (nI q) = (0, .int (nI ((S.1 r).length + (S.1 q).length)), cAct (cGiv (cSet S r (mg (S.1 r) (S.1 q) 0 0)) (bringL (S.1 q) true true (S.1 r) S.2.1).2)) := by
  have e1 : decide (r < 2) = true := decide_eq_true hr
  have e2 : decide (q < 2) = true := decide_eq_true hq
  refine (dAt_s (show r < 4 by omega) (by decide)).trans ((dAt_s (show q < 4 by omega) (by decide)).trans ?_)
  rw [if_neg (bt_nf (lf_rises k1)), if_neg (bt_nf (lf_rises k2)), if_neg h2, e1, e2, mg_weave, mg_len]
theorem cSet_at {S : cS} {r : Nat} {ys : List mIt} : (cSet S r ys).1 r = ys := if_pos rfl
theorem cAct_at {S : cS} {r : Nat} {ys : List mIt} : (cAct (cSet S r ys)).1 r = ys := if_pos rfl
theorem cGiv_at {S : cS} {r : Nat} {ys : List mIt} {g : Int32} : (cAct (cGiv (cSet S r ys) g)).1 r = ys := if_pos rfl
theorem cAct_ne {S : cS} {r q : Nat} {ys : List mIt} (h : q ≠ r) : (cAct (cSet S r ys)).1 q = S.1 q := if_neg h
theorem cGiv_ne {S : cS} {r q : Nat} {ys : List mIt} {g : Int32} (h : q ≠ r) : (cAct (cGiv (cSet S r ys) g)).1 q = S.1 q := if_neg h
theorem cSet_ne {S : cS} {r q : Nat} {ys : List mIt} (h : q ≠ r) : (cSet S r ys).1 q = S.1 q := if_neg h
end LETS
theorem mb_t : mb true = nI 1 := rfl
theorem mb_yes {b : Bool} {P : Prop} (h : b = true ↔ P) (q : P) : mb b = nI 1 := by rw [h.mpr q]; rfl
theorem mb_no {b : Bool} {P : Prop} (h : b = true ↔ P) (q : ¬ P) : mb b = nI 0 := by
  cases b with
  | true => exact absurd (h.mp rfl) q
  | false => rfl
theorem rroom_ge {r : Nat} : 150 ≤ rroom r := by
  unfold rroom
  split <;> omega
theorem aok_n {a : Nat} (h : a < 999) : aOk (nI a) = true := by
  unfold aOk
  rw [Bool.and_eq_true, Bool.not_eq_true', Bool.not_eq_true', decide_eq_false_iff_not, decide_eq_false_iff_not]
  have e1 := nI_toInt (show a < 2 ^ 31 by omega)
  have e2 := nI_toInt (show 999 < 2 ^ 31 by omega)
  have e3 : (-999 : Int32).toInt = -999 := by decide
  constructor
  · rw [Int32.lt_iff_toInt_lt, e1, e3]; omega
  · rw [Int32.lt_iff_toInt_lt, e1, e2]; omega
/-! arrays of the law -/
theorem upd_at {f : Nat → Int32} {k : Nat} {x : Int32} : upd f k x k = x := by
  unfold upd
  rw [if_pos rfl]
theorem ar_S {g F : Nat → Int32} {m : Nat} {v : Int32} (hg : ∀ i, i < m → g i = F i) (hv : v = F m) : ∀ i, i < m + 1 → upd g m v i = F i := by
  intro i hi
  unfold upd
  by_cases q : i = m
  · subst q; rw [if_pos rfl]; exact hv
  · rw [if_neg q]; exact hg i (by omega)
theorem ar_R {rf : Nat → Int32} {X : List mIt} {k : Nat} {v : Int32} (h : ∀ i, i < k → rf i = -1 ∨ rf i = nI (rankf X i)) (hv : v = -1 ∨ v = nI (rankf X k)) : ∀ i, i < k + 1 → upd rf k v i = -1 ∨ upd rf k v i = nI (rankf X i) := by
  intro i hi
  unfold upd
  by_cases q : i = k
  · subst q; rw [if_pos rfl]; exact hv
  · rw [if_neg q]; exact h i (by omega)
theorem ar_Bm {tf : Nat → Int32} {X : List mIt} {k : Nat} (h : ∀ j, j < X.length → tf j = 0 ∨ ∃ i, i < k ∧ rankf X i = j) : ∀ j, j < X.length → tf j = 0 ∨ ∃ i, i < k + 1 ∧ rankf X i = j := by
  intro j hj
  rcases h j hj with z | ⟨i, hi, e⟩
  · exact Or.inl z
  · exact Or.inr ⟨i, by omega, e⟩
theorem ar_B {tf : Nat → Int32} {X : List mIt} {k : Nat} {v : Int32} (h : ∀ j, j < X.length → tf j = 0 ∨ ∃ i, i < k ∧ rankf X i = j) : ∀ j, j < X.length → upd tf (rankf X k) v j = 0 ∨ ∃ i, i < k + 1 ∧ rankf X i = j := by
  intro j hj
  by_cases q : j = rankf X k
  · exact Or.inr ⟨k, by omega, q.symm⟩
  · unfold upd
    rw [if_neg q]
    exact ar_Bm h j hj
theorem ar_free {tf : Nat → Int32} {X : List mIt} {k : Nat} (h : ∀ j, j < X.length → tf j = 0 ∨ ∃ i, i < k ∧ rankf X i = j) (hk : k < X.length) : tf (rankf X k) = 0 := by
  rcases h _ (lf_rank hk).1 with z | ⟨i, hi, e⟩
  · exact z
  · have := lf_rank_inj (show i < X.length by omega) hk e
    omega
theorem other_self0 {xs : List mIt} : q_otherItems xs xs = nI 0 := other_self
theorem lf_two {xs ys : List mIt} (h : ks ys = ks xs) : ks (msort xs).1 = ks (msort ys).1 := lf_order lf_ksorted lf_ksorted ((lf_msks.trans (by rw [h])).trans lf_msks.symm)
theorem mg_next {M R : List mIt} {s : Nat} {z : mIt} (h : M.drop s = z :: R) : it M s = z ∧ M.drop (s + 1) = R := by
  have hs : s < M.length := by
    rcases Nat.lt_or_ge s M.length with q | q
    · exact q
    · rw [List.drop_eq_nil_of_le q] at h
      cases h
  rw [drop_it hs] at h
  exact ⟨(List.cons.inj h).1, (List.cons.inj h).2⟩
theorem mg_own {A B M : List mIt} {a b : Nat} {g : Nat → Int32} (im : M.drop (a + b) = mg A B a b) (ig : ∀ j, j < a + b → g j = xt M j) (e : mg A B a b = it A a :: mg A B (a + 1) b) : M.drop (a + 1 + b) = mg A B (a + 1) b ∧ ∀ j, j < a + 1 + b → upd g (a + b) (xt A a) j = xt M j := by
  rw [e] at im
  obtain ⟨h1, h2⟩ := mg_next im
  rw [show a + 1 + b = a + b + 1 by omega]
  exact ⟨h2, ar_S (F := xt M) ig (congrArg Prod.snd h1).symm⟩
theorem mg_oth {A B M : List mIt} {a b : Nat} {g : Nat → Int32} (im : M.drop (a + b) = mg A B a b) (ig : ∀ j, j < a + b → g j = xt M j) (e : mg A B a b = it B b :: mg A B a (b + 1)) : M.drop (a + (b + 1)) = mg A B a (b + 1) ∧ ∀ j, j < a + (b + 1) → upd g (a + b) (xt B b) j = xt M j := by
  rw [e] at im
  obtain ⟨h1, h2⟩ := mg_next im
  rw [show a + (b + 1) = a + b + 1 by omega]
  exact ⟨h2, ar_S (F := xt M) ig (congrArg Prod.snd h1).symm⟩
theorem lf_mgk {A B J : List mIt} (h1 : kSorted A) (h2 : kSorted B) (hJ : ks J = ks A ++ ks B) : ks (mg A B 0 0) = ks (msort J).1 := by
  refine lf_order (mg_sorted h1 h2) lf_ksorted ?_
  have p1 : (ks (mg A B 0 0)).Perm (ks (A ++ B)) := mg_perm.map Prod.fst
  refine p1.trans ?_
  refine List.Perm.trans ?_ lf_msks.symm
  rw [hJ]
  unfold ks
  rw [List.map_append]
theorem lf_m9 {L : Nat} (h : L < 2 ^ 31) : ¬ (-9 : Int32) = nI L := by
  intro z
  have e1 := nI_toInt h
  rw [← z] at e1
  have e2 : (-9 : Int32).toInt = -9 := by decide
  omega
