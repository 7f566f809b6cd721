/-! ===== facts of rows, for the law ===== -/
theorem lf_row (xs : List mIt) (hL : xs.length ≤ 320) : ∃ a b c T : Nat, a + b + c = T ∧ T ≤ 102400 ∧ pr cW xs = a ∧ (msort xs).2 = nI a ∧ q_wrongPairs xs = nI a ∧ q_rightPairs xs = nI b ∧ q_tiedPairsOfSorted (msort xs).1 = nI c ∧ nI xs.length * (nI xs.length - nI 1) / nI 2 = nI T ∧ (q_isRising xs = true ↔ a = 0) ∧ (q_fallsThroughout xs = true ↔ a = T) := by
  have h := @pr_tri xs
  have hb : xs.length * (xs.length - 1) ≤ 320 * 320 := Nat.mul_le_mul hL (by omega)
  refine ⟨pr cW xs, pr (fun x y => decide (x < y)) xs, pr cT xs, _, rfl, by omega, rfl, ?_, wrongQ_pr, right_pr, ties_pr, ?_, ?_, ?_⟩
  · rw [msort_wrong, wrong_pr]
  · rcases Nat.eq_zero_or_pos xs.length with e | e
    · have h0 : pr cW xs + pr (fun x y => decide (x < y)) xs + pr cT xs = 0 := by
        rw [e] at h
        omega
      rw [h0, e]
      decide
    · obtain ⟨n, hn⟩ : ∃ n, xs.length = n + 1 := ⟨xs.length - 1, by omega⟩
      rw [hn, Nat.add_sub_cancel] at h hb
      rw [hn, pk_sub (by omega), Nat.add_sub_cancel, mI_mul, pk_div (by omega) (by decide) (by decide)]
      refine congrArg nI ?_
      omega
  · rw [← wrong_0 hL, wrong_pr, mI_eq0 (by omega)]
  · rw [falls_iff]
    constructor
    · intro hf
      have e1 : pr (fun x y => decide (x < y)) xs = 0 := pr_zero.mpr (pairwise_it.mpr (fun i j hij hj => by
        have h1 := hf i j hij hj
        show decide (xk xs i < xk xs j) = false
        rw [decide_eq_false_iff_not]
        rw [Int32.lt_iff_toInt_lt] at h1 ⊢
        omega))
      have e2 : pr cT xs = 0 := pr_zero.mpr (pairwise_it.mpr (fun i j hij hj => by
        have h1 := hf i j hij hj
        show decide (xk xs i = xk xs j) = false
        rw [decide_eq_false_iff_not]
        intro z
        rw [z, Int32.lt_iff_toInt_lt] at h1
        omega))
      omega
    · intro he i j hij hj
      have e1 : pr (fun x y => decide (x < y)) xs = 0 := by omega
      have e2 : pr cT xs = 0 := by omega
      rw [pr_zero, pairwise_it] at e1 e2
      have h1 : decide (xk xs i < xk xs j) = false := e1 i j hij hj
      have h2 : decide (xk xs i = xk xs j) = false := e2 i j hij hj
      rw [decide_eq_false_iff_not, Int32.lt_iff_toInt_lt] at h1
      rw [decide_eq_false_iff_not, ← Int32.toInt_inj] at h2
      rw [Int32.lt_iff_toInt_lt]
      omega
theorem lf_runs (xs : List mIt) (hL : xs.length ≤ 320) : ∃ u : Nat, q_runsInAll xs = nI u ∧ u ≤ 320 ∧ (0 < xs.length → (u = 1 ↔ q_isRising xs = true)) ∧ (q_fallsThroughout xs = true → u = xs.length) := by
  have e : q_runsInAll xs = nI (0 + (List.range' 0 (xs.length - 0)).countP (fun j => decide (j = 0 ∨ xk xs j < xk xs (j - 1)))) := mlp_nI (c := fun i => i = 0 ∨ xk xs i < xk xs (i - 1)) _ 0 0
  have hc : (List.range' 0 (xs.length - 0)).countP (fun j => decide (j = 0 ∨ xk xs j < xk xs (j - 1))) ≤ (List.range' 0 (xs.length - 0)).length := List.countP_le_length
  rw [List.length_range'] at hc
  refine ⟨_, e, by omega, fun h0 => ?_, fun hf => ?_⟩
  · obtain ⟨n, hn⟩ : ∃ n, xs.length = n + 1 := ⟨xs.length - 1, by omega⟩
    have e2 : (List.range' 0 (xs.length - 0)).countP (fun j => decide (j = 0 ∨ xk xs j < xk xs (j - 1))) = (List.range' 1 n).countP (fun j => decide (j = 0 ∨ xk xs j < xk xs (j - 1))) + 1 := by
      rw [hn, Nat.sub_zero, List.range'_succ, List.countP_cons, if_pos (show decide ((0 : Nat) = 0 ∨ xk xs 0 < xk xs (0 - 1)) = true from decide_eq_true (Or.inl rfl))]
    rw [e2]
    unfold q_isRising
    rw [mall_all, hn, Nat.add_sub_cancel]
    constructor
    · intro h j j1 j2
      have h2 : (List.range' 1 n).countP (fun j => decide (j = 0 ∨ xk xs j < xk xs (j - 1))) = 0 := by omega
      rw [List.countP_eq_zero] at h2
      have h3 := h2 j (List.mem_range'_1.mpr ⟨j1, by omega⟩)
      rw [decide_eq_true_iff] at h3 ⊢
      exact fun z => h3 (Or.inr z)
    · intro h
      have h2 : (List.range' 1 n).countP (fun j => decide (j = 0 ∨ xk xs j < xk xs (j - 1))) = 0 := List.countP_eq_zero.mpr (fun j hj => by
        have hj2 := List.mem_range'_1.mp hj
        have h3 := h j (by omega) (by omega)
        rw [decide_eq_true_iff] at h3 ⊢
        rintro (z | z)
        · omega
        · exact h3 z)
      omega
  · have h2 : (List.range' 0 (xs.length - 0)).countP (fun j => decide (j = 0 ∨ xk xs j < xk xs (j - 1))) = (List.range' 0 (xs.length - 0)).length := List.countP_eq_length.mpr (fun j hj => by
      have hj2 := List.mem_range'_1.mp hj
      rw [decide_eq_true_iff]
      rcases Nat.eq_zero_or_pos j with z | z
      · exact Or.inl z
      · exact Or.inr (falls_iff.mp hf (j - 1) j (by omega) (by omega)))
    rw [h2, List.length_range']
    omega
theorem lf_wx (xs : List mIt) (k : Nat) : q_wrongerByExchange xs k = nI 0 ∨ q_wrongerByExchange xs k = nI 1 ∨ q_wrongerByExchange xs k = -1 := by
  unfold q_wrongerByExchange
  split
  · exact Or.inl rfl
  · split
    · exact Or.inr (Or.inl rfl)
    · exact Or.inr (Or.inr rfl)
theorem lf_like {xs : List mIt} {k : Nat} : q_wrongerByExchange xs k = 0 ↔ xk xs k = xk xs (k + 1) := by
  unfold q_wrongerByExchange
  by_cases h : xk xs k = xk xs (k + 1)
  · rw [if_pos h]; exact ⟨fun _ => h, fun _ => rfl⟩
  · rw [if_neg h]
    refine ⟨fun z => ?_, fun z => absurd z h⟩
    by_cases h2 : xk xs k < xk xs (k + 1)
    · rw [if_pos h2] at z; exact absurd z (by decide)
    · rw [if_neg h2] at z; exact absurd z (by decide)
theorem it_swp {xs : List mIt} {p q i : Nat} (hp : p < xs.length) (hq : q < xs.length) : it (swp xs p q) i = if i = q then it xs p else if i = p then it xs q else it xs i := by
  unfold it swp
  rw [xk_put (by rw [List.length_set]; exact hq), xt_put (by rw [List.length_set]; exact hq)]
  split
  · rfl
  · rw [xk_put hp, xt_put hp]
    split
    · rfl
    · rfl
theorem lf_swp_like {xs : List mIt} {k : Nat} (h : k + 1 < xs.length) : xk (swp xs k (k + 1)) k = xk (swp xs k (k + 1)) (k + 1) ↔ q_wrongerByExchange xs k = 0 := by
  rw [lf_like, swp_xk (by omega) h, swp_xk (by omega) h, if_neg (by omega), if_pos rfl, if_pos rfl]
  exact ⟨Eq.symm, Eq.symm⟩
theorem lf_swp_wx {xs : List mIt} {k : Nat} (h : k + 1 < xs.length) : q_wrongerByExchange (swp xs k (k + 1)) k = - q_wrongerByExchange xs k := by
  have e1 : xk (swp xs k (k + 1)) k = xk xs (k + 1) := by rw [swp_xk (by omega) h, if_neg (by omega), if_pos rfl]
  have e2 : xk (swp xs k (k + 1)) (k + 1) = xk xs k := by rw [swp_xk (by omega) h, if_pos rfl]
  unfold q_wrongerByExchange
  rw [e1, e2]
  by_cases h1 : xk xs k = xk xs (k + 1)
  · rw [if_pos h1.symm, if_pos h1]; decide
  · rw [if_neg (fun z => h1 z.symm), if_neg h1]
    by_cases h2 : xk xs k < xk xs (k + 1)
    · rw [if_neg (fun z => by rw [Int32.lt_iff_toInt_lt] at z h2; omega), if_pos h2]; decide
    · rw [if_pos (by rw [Int32.lt_iff_toInt_lt] at h2 ⊢; rw [← Int32.toInt_inj] at h1; omega), if_neg h2]; decide
theorem lf_swp_swp {xs : List mIt} {k : Nat} (h : k + 1 < xs.length) : swp (swp xs k (k + 1)) k (k + 1) = xs := by
  refine xs_ext (by rw [swp_len, swp_len]) (fun i _ => ?_)
  rw [it_swp (by rw [swp_len]; omega) (by rw [swp_len]; omega), it_swp (by omega) h, it_swp (by omega) h, it_swp (by omega) h]
  by_cases h1 : i = k + 1
  · rw [if_pos h1, if_neg (by omega), if_pos rfl, h1]
  · rw [if_neg h1]
    by_cases h2 : i = k
    · rw [if_pos h2, if_pos rfl, h2]
    · rw [if_neg h2, if_neg h1, if_neg h2]
theorem lf_swp_pr {xs : List mIt} {k : Nat} (h : k + 1 < xs.length) : (msort (swp xs k (k + 1))).2 = (msort xs).2 + q_wrongerByExchange xs k := by
  rw [msort_wrong, msort_wrong, ← exch_eq h, Int32.add_comm, Int32.sub_add_cancel]
/-! ranks -/
theorem lf_perm (xs : List mIt) : ∃ P : List Nat, (msort xs).1 = P.map (it xs) ∧ P.Pairwise (fun a b => rl xs a b = true) ∧ P.Perm (List.range' 0 xs.length) ∧ P.length = xs.length := by
  obtain ⟨P, e, hp, hq⟩ := @msort_bk xs
  rw [Nat.sub_zero] at hq
  exact ⟨P, e, hp, hq, by rw [hq.length_eq, List.length_range']⟩
theorem lf_rank {xs : List mIt} {k : Nat} (hk : k < xs.length) : rankf xs k < xs.length ∧ it (msort xs).1 (rankf xs k) = it xs k := by
  obtain ⟨P, e, hp, hq, hl⟩ := lf_perm xs
  have hm : k ∈ P := hq.mem_iff.mpr (List.mem_range'_1.mpr ⟨Nat.zero_le _, by omega⟩)
  obtain ⟨j, hj, rfl⟩ := List.getElem_of_mem hm
  rw [rank_at hp hq hj]
  refine ⟨by omega, ?_⟩
  have h8 : (msort xs).1[j]'(by rw [msort_len]; omega) = it xs P[j] := by simp only [e, List.getElem_map]
  rw [← h8, xk_get]
  rfl
theorem lf_rank_inj {xs : List mIt} {i j : Nat} (hi : i < xs.length) (hj : j < xs.length) (h : rankf xs i = rankf xs j) : i = j := by
  obtain ⟨P, e, hp, hq, hl⟩ := lf_perm xs
  have hm : i ∈ P := hq.mem_iff.mpr (List.mem_range'_1.mpr ⟨Nat.zero_le _, by omega⟩)
  have hm2 : j ∈ P := hq.mem_iff.mpr (List.mem_range'_1.mpr ⟨Nat.zero_le _, by omega⟩)
  obtain ⟨a, ha, rfl⟩ := List.getElem_of_mem hm
  obtain ⟨b, hb, rfl⟩ := List.getElem_of_mem hm2
  rw [rank_at hp hq ha, rank_at hp hq hb] at h
  subst h
  rfl
theorem lf_idem {ys : List mIt} (h : kSorted ys) : (msort ys).1 = ys := by
  have h2 := pairwise_it.mp h
  have h3 := rising_part (xs := ys) (s := 0) (e := ys.length) (Nat.le_refl _) (Nat.zero_le _) (fun i j _ hij hj => h2 i j hij hj)
  rw [span_all] at h3
  exact msort_bk.uniq h3
theorem lf_ksorted {xs : List mIt} : kSorted (msort xs).1 := msort_bk.sorted
theorem lf_rises {ys : List mIt} (h : kSorted ys) : q_isRising ys = true := rising_iff.mpr (pairwise_it.mp h)
theorem lf_rises2 {ys : List mIt} (h : q_isRising ys = true) : kSorted ys := pairwise_it.mpr (rising_iff.mp h)
/-- a falling row is turned round by sorting -/
theorem lf_falls {xs : List mIt} (h : ∀ i j, i < j → j < xs.length → xk xs j < xk xs i) {k : Nat} (hk : k < xs.length) : it (msort xs).1 (xs.length - 1 - k) = it xs k := by
  have hb : Bk xs 0 xs.length ((List.range' 0 xs.length).reverse.map (it xs)) := by
    refine ⟨_, rfl, ?_, by rw [Nat.sub_zero]; exact List.reverse_perm _⟩
    rw [List.pairwise_reverse]
    refine (List.pairwise_lt_range' (s := 0) (n := xs.length)).imp_of_mem (fun {a b} ha hb hab => ?_)
    rw [List.mem_range'_1] at ha hb
    have h1 := h a b hab (by omega)
    rw [Int32.lt_iff_toInt_lt] at h1
    rw [rl_iff]
    omega
  have e := msort_bk.uniq hb
  have h9 : (msort xs).1[xs.length - 1 - k]'(by rw [msort_len]; omega) = it xs k := by
    simp only [e, List.getElem_map, List.getElem_reverse, List.getElem_range', List.length_range']
    refine congrArg (it xs) ?_
    omega
  rw [← h9, xk_get]
  rfl
/-! counts of what differs -/
theorem lf_others {xs ys : List mIt} (hL : xs.length ≤ 320) : ∃ c : Nat, c ≤ 320 ∧ q_otherItems xs ys = nI c := by
  unfold q_otherItems
  have h : mlp (fun i (acc : Int32) => if xk xs i = xk ys i ∧ xt xs i = xt ys i then acc else acc + 1) ((min xs.length ys.length) - 0) 0 (nI 0) = nI (0 + (List.range' 0 ((min xs.length ys.length) - 0)).countP (fun j => decide (¬ (xk xs j = xk ys j ∧ xt xs j = xt ys j)))) := by
    rw [← mlp_nI (c := fun j => ¬ (xk xs j = xk ys j ∧ xt xs j = xt ys j))]
    refine mlp_congr (fun j b _ _ => ?_)
    by_cases e : xk xs j = xk ys j ∧ xt xs j = xt ys j
    · rw [if_pos e, if_neg (fun z => z e)]
    · rw [if_neg e, if_pos e]
  have hb : (List.range' 0 ((min xs.length ys.length) - 0)).countP (fun j => decide (¬ (xk xs j = xk ys j ∧ xt xs j = xt ys j))) ≤ (List.range' 0 ((min xs.length ys.length) - 0)).length := List.countP_le_length
  rw [List.length_range'] at hb
  exact ⟨_, by omega, h⟩
theorem lf_otherk {xs ys : List mIt} (hL : xs.length ≤ 320) : ∃ c : Nat, c ≤ 320 ∧ q_otherKeys xs ys = nI c := by
  unfold q_otherKeys
  have h : mlp (fun i (acc : Int32) => if xk xs i = xk ys i then acc else acc + 1) ((min xs.length ys.length) - 0) 0 (nI 0) = nI (0 + (List.range' 0 ((min xs.length ys.length) - 0)).countP (fun j => decide (¬ xk xs j = xk ys j))) := by
    rw [← mlp_nI (c := fun j => ¬ xk xs j = xk ys j)]
    refine mlp_congr (fun j b _ _ => ?_)
    by_cases e : xk xs j = xk ys j
    · rw [if_pos e, if_neg (fun z => z e)]
    · rw [if_neg e, if_pos e]
  have hb : (List.range' 0 ((min xs.length ys.length) - 0)).countP (fun j => decide (¬ xk xs j = xk ys j)) ≤ (List.range' 0 ((min xs.length ys.length) - 0)).length := List.countP_le_length
  rw [List.length_range'] at hb
  exact ⟨_, by omega, h⟩
def ks (xs : List mIt) : List Int32 := xs.map Prod.fst
theorem ks_len {xs : List mIt} : (ks xs).length = xs.length := List.length_map _
/-- same keys at the same places: same says so -/
theorem lf_same {xs ys : List mIt} (hL : xs.length ≤ 320) (h : ks xs = ks ys) : (decide (xs.length = ys.length) && decide (q_otherKeys xs ys = 0)) = true := by
  have hl : xs.length = ys.length := by rw [← @ks_len xs, ← @ks_len ys, h]
  rw [Bool.and_eq_true, decide_eq_true_iff, decide_eq_true_iff]
  exact ⟨hl, (other_0 hl (by omega)).mpr ((keys_eq hl).mpr h)⟩
/-- two rows in order with the same keys -/
theorem lf_order {xs ys : List mIt} (h1 : kSorted xs) (h2 : kSorted ys) (hp : (ks xs).Perm (ks ys)) : ks xs = ks ys := by
  have so : ∀ zs : List mIt, kSorted zs → (zs.map Prod.fst).Pairwise (fun a b => ¬ b < a) := fun zs hz => List.pairwise_map.mpr hz
  exact hp.eq_of_pairwise (fun a b _ _ u v => by rw [Int32.lt_iff_toInt_lt] at u v; rw [← Int32.toInt_inj]; omega) (so _ h1) (so _ h2)
theorem lf_msks {xs : List mIt} : (ks (msort xs).1).Perm (ks xs) := msort_perm.map Prod.fst
theorem lf_bag {xs ys : List mIt} (hL : xs.length ≤ 320) (hp : (ks xs).Perm (ks ys)) : (decide (xs.length = ys.length) && decide (q_otherKeys (msort xs).1 (msort ys).1 = 0)) = true := by
  have hl : xs.length = ys.length := by rw [← @ks_len xs, ← @ks_len ys, hp.length_eq]
  have h := lf_same (xs := (msort xs).1) (ys := (msort ys).1) (by rw [msort_len]; exact hL) (lf_order lf_ksorted lf_ksorted ((lf_msks.trans hp).trans lf_msks.symm))
  rw [Bool.and_eq_true] at h ⊢
  exact ⟨decide_eq_true hl, h.2⟩
theorem lf_bringk {xs ys : List mIt} {t ft : Bool} {g : Int32} : ks (bringL xs t ft ys g).1 = ks ys ++ ks xs := by
  unfold bringL ks
  rw [bring_go, List.map_append, List.map_map, Nat.sub_zero]
  have h2 := take_range (xs := xs) (Nat.le_refl xs.length)
  rw [List.take_length] at h2
  conv => rhs; rw [← h2, List.map_map]
  rfl
theorem lf_bringt {xs ys : List mIt} {g : Int32} : (bringL xs true true ys g).1 = ys ++ xs := by
  unfold bringL
  rw [bring_go, Nat.sub_zero]
  have h2 := take_range (xs := xs) (Nat.le_refl xs.length)
  rw [List.take_length] at h2
  conv => rhs; rw [← h2]
  rfl
theorem lf_rv {xs : List mIt} : rv xs xs.length = xs.reverse := by
  refine xs_ext (by rw [rv_len, List.length_reverse]) (fun i hi => ?_)
  rw [rv_len] at hi
  rw [it_rv hi]
  have h9 : xs.reverse[i]'(by rw [List.length_reverse]; exact hi) = it xs (xs.length - 1 - i) := by
    rw [List.getElem_reverse, xk_get (by omega)]
    rfl
  rw [← h9, xk_get]
  rfl
theorem lf_pr_rev {c : Int32 → Int32 → Bool} : ∀ {l : List mIt}, pr c l.reverse = pr (fun x y => c y x) l
  | [] => rfl
  | a :: l => by
    rw [List.reverse_cons, pr_snoc, lf_pr_rev, List.countP_reverse]
    show _ = l.countP (fun b => c b.1 a.1) + pr (fun x y => c y x) l
    omega
/-- turned round: wrong pairs are the right ones of before, ties stay -/
theorem lf_turned {xs : List mIt} : (msort (rv xs xs.length)).2 = q_rightPairs xs ∧ q_tiedPairsOfSorted (msort (rv xs xs.length)).1 = q_tiedPairsOfSorted (msort xs).1 := by
  rw [lf_rv, msort_wrong, wrong_pr, right_pr, ties_pr, ties_pr, lf_pr_rev]
  exact ⟨rfl, congrArg nI (pr_perm cT_comm (List.reverse_perm xs))⟩
/-- a falling row, sorted, is its copy turned round -/
theorem lf_fallsk {xs ys : List mIt} (h : ∀ i j, i < j → j < xs.length → xk xs j < xk xs i) (hk : ks ys = ks xs) : ks (msort xs).1 = ks (rv ys ys.length) := by
  have hl : ys.length = xs.length := by rw [← @ks_len ys, hk, ks_len]
  rw [lf_rv]
  refine (lf_order lf_ksorted ?_ ?_)
  · refine pairwise_it.mpr (fun i j hij hj => ?_)
    rw [List.length_reverse] at hj
    have hx : ∀ k, k < xs.length → xk ys k = xk xs k := fun k hk2 => ((keys_eq hl).mpr hk) k (by omega)
    have e : ∀ k, k < ys.length → xk ys.reverse k = xk xs (ys.length - 1 - k) := fun k hk2 => by
      rw [← lf_rv]
      exact (congrArg Prod.fst (it_rv hk2)).trans (hx _ (by omega))
    show ¬ xk ys.reverse j < xk ys.reverse i
    rw [e j hj, e i (by omega)]
    have h1 := h (ys.length - 1 - j) (ys.length - 1 - i) (by omega) (by omega)
    rw [Int32.lt_iff_toInt_lt] at h1 ⊢
    omega
  · refine lf_msks.trans ?_
    rw [← hk]
    exact ((List.reverse_perm ys).map Prod.fst).symm
/-- what fill lays by the pattern that falls -/
theorem lf_fill2 {m b a : Nat} {bl : Bool} {g : Int32} (hm : m < 40) (hb : b < 10) (hb0 : 0 < b) (ha : a < 99) : (fillL 2 m (nI a) b bl g).1.length = m ∧ ∀ i j, i < j → j < (fillL 2 m (nI a) b bl g).1.length → xk (fillL 2 m (nI a) b bl g).1 j < xk (fillL 2 m (nI a) b bl g).1 i := by
  have e : (fillL 2 m (nI a) b bl g).1 = (List.range' 0 m).map (fun k => (patKey 2 k m (nI a) b, fst9 bl g 0 k)) := by
    unfold fillL
    rw [if_neg (by decide), pat_go, Nat.sub_zero]
    rfl
  have hl : (fillL 2 m (nI a) b bl g).1.length = m := by rw [e, List.length_map, List.length_range']
  refine ⟨hl, fun i j hij hj => ?_⟩
  rw [hl] at hj
  have hx : ∀ k, k < m → xk (fillL 2 m (nI a) b bl g).1 k = nI a - nI (k * b) := fun k hk => by
    have h9 : (fillL 2 m (nI a) b bl g).1[k]'(by rw [hl]; exact hk) = (patKey 2 k m (nI a) b, fst9 bl g 0 k) := by
      simp only [e, List.getElem_map, List.getElem_range', Nat.one_mul, Nat.zero_add]
    rw [xk_get (by rw [hl]; exact hk)] at h9
    exact congrArg Prod.fst h9
  rw [hx j hj, hx i (by omega), Int32.lt_iff_toInt_lt]
  have hjb : j * b ≤ 40 * 10 := Nat.mul_le_mul (by omega) (by omega)
  have hib : (i + 1) * b ≤ j * b := Nat.mul_le_mul_right b hij
  rw [Nat.add_mul, Nat.one_mul] at hib
  rw [pk_sub_toInt (by omega) (by omega), pk_sub_toInt (by omega) (by omega)]
  omega
/-! the least key -/
theorem lf_least {xs : List mIt} : (xs = [] ∧ q_leastKey xs = -100000) ∨ ((∃ i, i < xs.length ∧ xk xs i = q_leastKey xs) ∧ ∀ i, i < xs.length → ¬ xk xs i < q_leastKey xs) := by
  rcases Nat.eq_zero_or_pos xs.length with e | e
  · refine Or.inl ⟨List.eq_nil_of_length_eq_zero e, ?_⟩
    rw [List.eq_nil_of_length_eq_zero e]
    rfl
  · refine Or.inr ?_
    have w : ∀ (d s : Nat) (x : Int32), s + d = xs.length → 0 < s → ((∃ i, i < s ∧ xk xs i = x) ∧ ∀ i, i < s → ¬ xk xs i < x) → (∃ i, i < xs.length ∧ xk xs i = mlp (fun i acc => if i = 0 ∨ xk xs i < acc then xk xs i else acc) d s x) ∧ ∀ i, i < xs.length → ¬ xk xs i < mlp (fun i acc => if i = 0 ∨ xk xs i < acc then xk xs i else acc) d s x := by
      intro d
      induction d with
      | zero =>
        intro s x h _ hx
        rw [show xs.length = s by omega]
        exact hx
      | succ d ih =>
        intro s x h h0 hx
        refine ih (s + 1) (if s = 0 ∨ xk xs s < x then xk xs s else x) (by omega) (by omega) ?_
        obtain ⟨⟨i0, i1, i2⟩, i3⟩ := hx
        by_cases q : xk xs s < x
        · rw [if_pos (Or.inr q)]
          refine ⟨⟨s, by omega, rfl⟩, fun i hi => ?_⟩
          by_cases e2 : i = s
          · rw [e2, Int32.lt_iff_toInt_lt]; omega
          · have h5 := i3 i (by omega)
            rw [Int32.lt_iff_toInt_lt] at h5 q ⊢
            omega
        · rw [if_neg (fun z => z.elim (fun v => by omega) q)]
          refine ⟨⟨i0, by omega, i2⟩, fun i hi => ?_⟩
          by_cases e2 : i = s
          · rw [e2]; exact q
          · exact i3 i (by omega)
    have h1 := w (xs.length - 1) 1 (xk xs 0) (by omega) (by decide) ⟨⟨0, by decide, rfl⟩, fun i hi => by
      obtain rfl : i = 0 := by omega
      rw [Int32.lt_iff_toInt_lt]; omega⟩
    have e2 : q_leastKey xs = mlp (fun i acc => if i = 0 ∨ xk xs i < acc then xk xs i else acc) (xs.length - 1) 1 (xk xs 0) := by
      unfold q_leastKey
      rw [show xs.length - 0 = (xs.length - 1) + 1 by omega]
      show mlp _ (xs.length - 1) 1 (if 0 = 0 ∨ xk xs 0 < -100000 then xk xs 0 else -100000) = _
      rw [if_pos (Or.inl rfl)]
    rw [e2]
    exact h1
theorem lf_least_perm {xs ys : List mIt} (hp : (ks xs).Perm (ks ys)) : q_leastKey xs = q_leastKey ys := by
  have hl : xs.length = ys.length := by rw [← @ks_len xs, ← @ks_len ys, hp.length_eq]
  rcases @lf_least xs with ⟨e, h1⟩ | ⟨⟨i, hi, h1⟩, h2⟩
  · have e2 : ys = [] := List.eq_nil_of_length_eq_zero (by rw [← hl, e]; rfl)
    rw [e, e2]
  · rcases @lf_least ys with ⟨e, h3⟩ | ⟨⟨j, hj, h3⟩, h4⟩
    · rw [e] at hl
      exact absurd hi (by rw [hl]; exact Nat.not_lt_zero _)
    · obtain ⟨a, ha, ha2⟩ := keys_mem.mpr (hp.mem_iff.mp (keys_mem.mp ⟨i, hi, rfl⟩))
      obtain ⟨b, hb, hb2⟩ := keys_mem.mpr (hp.mem_iff.mpr (keys_mem.mp ⟨j, hj, rfl⟩))
      have h5 := h4 a ha
      have h6 := h2 b hb
      rw [ha2, h1, Int32.lt_iff_toInt_lt] at h5
      rw [hb2, h3, Int32.lt_iff_toInt_lt] at h6
      rw [← Int32.toInt_inj]
      omega
/-! what is asked -/
theorem lf_wrongAt {xs : List mIt} {k : Nat} (hk : k < xs.length) : ∃ c : Nat, c ≤ xs.length - 1 ∧ q_wrongPairsWith xs k = nI c := by
  unfold q_wrongPairsWith
  rw [mlp_nI (c := fun j => xk xs k < xk xs j) (k - 0) 0 0, mlp_nI (c := fun j => xk xs j < xk xs k) (xs.length - (k + 1)) (k + 1)]
  have h1 : (List.range' 0 (k - 0)).countP (fun j => decide (xk xs k < xk xs j)) ≤ (List.range' 0 (k - 0)).length := List.countP_le_length
  have h2 : (List.range' (k + 1) (xs.length - (k + 1))).countP (fun j => decide (xk xs j < xk xs k)) ≤ (List.range' (k + 1) (xs.length - (k + 1))).length := List.countP_le_length
  rw [List.length_range'] at h1 h2
  exact ⟨_, by omega, rfl⟩
theorem lf_longest {xs : List mIt} (hL : xs.length ≤ 320) : ∃ m : Nat, m ≤ 320 ∧ q_longestRun xs = nI m ∧ ∀ k, k < xs.length → q_endOfRun xs k - k ≤ m := by
  have e := @longest_eq xs hL
  refine ⟨_, ?_, e.symm, ?_⟩
  · have w : ∀ (d s m : Nat), s + d = xs.length → m ≤ 320 → mlp (lgS xs) d s m ≤ 320 := by
      intro d
      induction d with
      | zero => intro s m _ h; exact h
      | succ d ih =>
        intro s m h hm
        refine ih (s + 1) (max m (q_endOfRun xs s - s)) (by omega) ?_
        have := (eor (xs := xs) (i := s) (by omega)).2.1
        omega
    exact w _ _ _ (by omega) (Nat.zero_le _)
  · intro k hk
    have w : ∀ (d s m : Nat), (m ≤ mlp (lgS xs) d s m) ∧ ∀ j, s ≤ j → j < s + d → q_endOfRun xs j - j ≤ mlp (lgS xs) d s m := by
      intro d
      induction d with
      | zero => intro s m; exact ⟨Nat.le_refl _, fun j h1 h2 => absurd h2 (by omega)⟩
      | succ d ih =>
        intro s m
        obtain ⟨i1, i2⟩ := ih (s + 1) (lgS xs s m)
        have e1 : mlp (lgS xs) (d + 1) s m = mlp (lgS xs) d (s + 1) (lgS xs s m) := rfl
        have e2 : lgS xs s m = max m (q_endOfRun xs s - s) := rfl
        rw [e1]
        refine ⟨by omega, fun j h1 h2 => ?_⟩
        by_cases f : j = s
        · subst f; omega
        · exact i2 j (by omega) (by omega)
    exact (w (xs.length - 0) 0 0).2 k (Nat.zero_le _) (by omega)
theorem lf_cnt {xs : List mIt} {c : Nat → Prop} {dc : ∀ j, Decidable (c j)} : ∃ m : Nat, m ≤ xs.length ∧ mlp (fun j (acc : Int32) => if c j then acc + 1 else acc) (xs.length - 0) 0 (nI 0) = nI m := by
  rw [mlp_nI (c := c)]
  have h1 : (List.range' 0 (xs.length - 0)).countP (fun j => decide (c j)) ≤ (List.range' 0 (xs.length - 0)).length := List.countP_le_length
  rw [List.length_range'] at h1
  exact ⟨_, by omega, rfl⟩
theorem lf_unlike {xs : List mIt} : ∃ m : Nat, m ≤ xs.length ∧ q_unlikeKeysOfSorted (msort xs).1 = nI m := by
  obtain ⟨m, h1, h2⟩ := lf_cnt (xs := (msort xs).1) (c := fun i => i = 0 ∨ ¬ xk (msort xs).1 i = xk (msort xs).1 (i - 1))
  exact ⟨m, by rw [msort_len] at h1; exact h1, h2⟩
theorem lf_count {xs : List mIt} {key : Int32} : ∃ m : Nat, m ≤ xs.length ∧ q_itemsWith xs key = nI m := lf_cnt (c := fun i => xk xs i = key)
theorem lf_below {xs : List mIt} {key : Int32} : ∃ m : Nat, m ≤ xs.length ∧ q_itemsBelow xs key = nI m := lf_cnt (c := fun i => xk xs i < key)
theorem lf_ff {p : Nat → Bool} : ∀ (d s : Nat), (mff p d s = -1 ∧ ∀ j, s ≤ j → j < s + d → p j = false) ∨ ∃ i, s ≤ i ∧ i < s + d ∧ p i = true ∧ mff p d s = nI i ∧ ∀ j, s ≤ j → j < i → p j = false := by
  intro d
  induction d with
  | zero => intro s; exact Or.inl ⟨rfl, fun j h1 h2 => absurd h2 (by omega)⟩
  | succ d ih =>
    intro s
    have e : mff p (d + 1) s = if p s = true then nI s else mff p d (s + 1) := rfl
    rw [e]
    cases h : p s with
    | true =>
      rw [if_pos rfl]
      exact Or.inr ⟨s, Nat.le_refl _, by omega, h, rfl, fun j h1 h2 => absurd h1 (by omega)⟩
    | false =>
      rw [if_neg (by decide)]
      rcases ih (s + 1) with ⟨i1, i2⟩ | ⟨i, i1, i2, i3, i4, i5⟩
      · refine Or.inl ⟨i1, fun j h1 h2 => ?_⟩
        by_cases f : j = s
        · rw [f]; exact h
        · exact i2 j (by omega) (by omega)
      · refine Or.inr ⟨i, by omega, by omega, i3, i4, fun j h1 h2 => ?_⟩
        by_cases f : j = s
        · rw [f]; exact h
        · exact i5 j (by omega) h2
theorem lf_fl {p : Nat → Bool} : ∀ d : Nat, (mfl p d = -1 ∧ ∀ j, j < d → p j = false) ∨ ∃ i, i < d ∧ p i = true ∧ mfl p d = nI i ∧ ∀ j, i < j → j < d → p j = false := by
  intro d
  induction d with
  | zero => exact Or.inl ⟨rfl, fun j h => absurd h (Nat.not_lt_zero _)⟩
  | succ d ih =>
    have e : mfl p (d + 1) = if p d = true then nI d else mfl p d := rfl
    rw [e]
    cases h : p d with
    | true =>
      rw [if_pos rfl]
      exact Or.inr ⟨d, Nat.lt_succ_self _, h, rfl, fun j h1 h2 => absurd h2 (by omega)⟩
    | false =>
      rw [if_neg (by decide)]
      rcases ih with ⟨i1, i2⟩ | ⟨i, i1, i2, i3, i4⟩
      · refine Or.inl ⟨i1, fun j h1 => ?_⟩
        by_cases f : j = d
        · rw [f]; exact h
        · exact i2 j (by omega)
      · refine Or.inr ⟨i, by omega, i2, i3, fun j h1 h2 => ?_⟩
        by_cases f : j = d
        · rw [f]; exact h
        · exact i4 j h1 (by omega)
theorem lf_first {xs : List mIt} (hL : xs.length ≤ 320) {key : Int32} : ¬ q_lastPlaceOf xs key < q_firstPlaceOf xs key := by
  unfold q_lastPlaceOf q_firstPlaceOf
  rw [Nat.sub_zero, Int32.lt_iff_toInt_lt]
  have em : (-1 : Int32).toInt = -1 := by decide
  rcases lf_fl (p := fun i => decide (xk xs i = key)) xs.length with ⟨i1, i2⟩ | ⟨i, i1, i2, i3, i4⟩
  · rcases lf_ff (p := fun i => decide (xk xs i = key)) xs.length 0 with ⟨j1, j2⟩ | ⟨j, j1, j2, j3, j4, j5⟩
    · rw [i1, j1]; omega
    · exact absurd (i2 j (by omega)) (by rw [j3]; decide)
  · rcases lf_ff (p := fun i => decide (xk xs i = key)) xs.length 0 with ⟨j1, j2⟩ | ⟨j, j1, j2, j3, j4, j5⟩
    · exact absurd (j2 i (Nat.zero_le _) (by omega)) (by rw [i2]; decide)
    · rw [i3, j4, nI_toInt (by omega), nI_toInt (by omega)]
      have hij : ¬ i < j := fun z => absurd (j5 i (Nat.zero_le _) z) (by rw [i2]; decide)
      omega
theorem lf_diff (a w : Int32) : a + w - a = w := by rw [Int32.add_comm, Int32.add_sub_cancel]
theorem lf_abs {x : Int32} (h : x = nI 0 ∨ x = nI 1 ∨ x = -1) : ∃ c : Nat, c ≤ 1 ∧ (if 0 ≤ x then x else 0 - x) = nI c := by
  rcases h with rfl | rfl | rfl
  · exact ⟨0, by decide, by decide⟩
  · exact ⟨1, by decide, by decide⟩
  · exact ⟨1, by decide, by decide⟩
/-! two rows merged: what comes next -/
def mg (A B : List mIt) (a b : Nat) : List mIt := List.merge (A.drop a) (B.drop b) wle
theorem mg_l {A B : List mIt} {a b : Nat} (ha : a < A.length) (h : b = B.length ∨ (b < B.length ∧ ¬ xk B b < xk A a)) : mg A B a b = it A a :: mg A B (a + 1) b := by
  unfold mg
  rw [drop_it (s := a) ha]
  rcases h with h | ⟨h1, h2⟩
  · rw [List.drop_eq_nil_of_le (show B.length ≤ b by omega), List.merge_right, List.merge_right]
  · rw [drop_it (s := b) h1, List.cons_merge_cons, if_pos (show wle (it A a) (it B b) = true by
      unfold wle
      rw [Bool.not_eq_true', decide_eq_false_iff_not]
      exact h2)]
theorem mg_r {A B : List mIt} {a b : Nat} (hb : b < B.length) (h : A.length ≤ a ∨ (a < A.length ∧ xk B b < xk A a)) : mg A B a b = it B b :: mg A B a (b + 1) := by
  unfold mg
  rw [drop_it (s := b) hb]
  rcases h with h | ⟨h1, h2⟩
  · rw [List.drop_eq_nil_of_le h, List.nil_merge, List.nil_merge]
  · rw [drop_it (s := a) h1, List.cons_merge_cons, if_neg (show ¬ wle (it A a) (it B b) = true by
      unfold wle
      rw [Bool.not_eq_true', decide_eq_false_iff_not]
      exact fun z => z h2)]
theorem mg_len {A B : List mIt} : (mg A B 0 0).length = A.length + B.length := by
  unfold mg
  rw [List.drop_zero, List.drop_zero, List.length_merge]
theorem mg_weave {A B : List mIt} {g : Int32} : weave (bringL B true true A g).1 A.length = mg A B 0 0 := by
  unfold weave mg
  rw [lf_bringt, List.drop_zero, List.drop_zero]
  have e1 : span (A ++ B) 0 A.length = A := by
    unfold span
    rw [List.take_left, List.drop_zero]
  have e2 : span (A ++ B) A.length (A ++ B).length = B := by
    unfold span
    rw [List.take_length, List.drop_left]
  rw [e1, e2]
theorem mg_sorted {A B : List mIt} (h1 : kSorted A) (h2 : kSorted B) : kSorted (mg A B 0 0) := by
  unfold mg
  rw [List.drop_zero, List.drop_zero]
  unfold kSorted at h1 h2 ⊢
  have t1 : ∀ a b c : mIt, wle a b = true → wle b c = true → wle a c = true := by
    intro a b c
    unfold wle
    rw [Bool.not_eq_true', Bool.not_eq_true', Bool.not_eq_true', decide_eq_false_iff_not, decide_eq_false_iff_not, decide_eq_false_iff_not, Int32.lt_iff_toInt_lt, Int32.lt_iff_toInt_lt, Int32.lt_iff_toInt_lt]
    omega
  have t2 : ∀ a b : mIt, (wle a b || wle b a) = true := by
    intro a b
    unfold wle
    rw [Bool.or_eq_true, Bool.not_eq_true', Bool.not_eq_true', decide_eq_false_iff_not, decide_eq_false_iff_not, Int32.lt_iff_toInt_lt, Int32.lt_iff_toInt_lt]
    omega
  have cv : ∀ a b : mIt, (¬ b.1 < a.1) ↔ wle a b = true := by
    intro a b
    unfold wle
    rw [Bool.not_eq_true', decide_eq_false_iff_not]
  exact (List.pairwise_merge t1 t2 A B (h1.imp (fun {a b} q => (cv a b).mp q)) (h2.imp (fun {a b} q => (cv a b).mp q))).imp (fun {a b} q => (cv a b).mpr q)
theorem mg_perm {A B : List mIt} : (mg A B 0 0).Perm (A ++ B) := by
  unfold mg
  rw [List.drop_zero, List.drop_zero]
  exact List.merge_perm_append wle
