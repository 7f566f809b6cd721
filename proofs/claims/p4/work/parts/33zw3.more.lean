/-! ===== keys that differ, the commonest key, bags, the digest ===== -/
theorem uniq_count {n : Nat} {f g : Nat → Int32} {P Q : Nat → Bool} (p1 : ∀ i j, i < j → j < n → P i = true → P j = true → f i ≠ f j) (p2 : ∀ i, i < n → ∃ j, j < n ∧ P j = true ∧ f j = f i) (q1 : ∀ i j, i < j → j < n → Q i = true → Q j = true → g i ≠ g j) (q2 : ∀ i, i < n → ∃ j, j < n ∧ Q j = true ∧ g j = g i) (hfg : ∀ x, (∃ i, i < n ∧ f i = x) ↔ ∃ i, i < n ∧ g i = x) : (List.range' 0 n).countP P = (List.range' 0 n).countP Q := by
  have key : ∀ (f : Nat → Int32) (P : Nat → Bool), (∀ i j, i < j → j < n → P i = true → P j = true → f i ≠ f j) → (((List.range' 0 n).filter P).map f).Nodup := by
    intro f P h
    unfold List.Nodup
    rw [List.pairwise_map]
    refine ((List.pairwise_lt_range' (s := 0) (n := n)).filter P).imp_of_mem (fun {a b} ha hb hab => ?_)
    have ha2 := List.mem_filter.mp ha
    have hb2 := List.mem_filter.mp hb
    have hb3 := List.mem_range'_1.mp hb2.1
    exact h a b hab (by omega) ha2.2 hb2.2
  have mem : ∀ (f : Nat → Int32) (P : Nat → Bool), (∀ i, i < n → ∃ j, j < n ∧ P j = true ∧ f j = f i) → ∀ x, x ∈ ((List.range' 0 n).filter P).map f ↔ ∃ i, i < n ∧ f i = x := by
    intro f P h x
    rw [List.mem_map]
    constructor
    · rintro ⟨a, ha, rfl⟩
      have ha3 := List.mem_range'_1.mp (List.mem_filter.mp ha).1
      exact ⟨a, by omega, rfl⟩
    · rintro ⟨i, hi, rfl⟩
      obtain ⟨j, j1, j2, j3⟩ := h i hi
      exact ⟨j, List.mem_filter.mpr ⟨List.mem_range'_1.mpr ⟨Nat.zero_le _, by omega⟩, j2⟩, j3⟩
  have hp : (((List.range' 0 n).filter P).map f).Perm (((List.range' 0 n).filter Q).map g) := (List.perm_ext_iff_of_nodup (key f P p1) (key g Q q1)).mpr (fun x => by rw [mem f P p2, mem g Q q2, hfg])
  have hl := hp.length_eq
  rw [List.length_map, List.length_map] at hl
  rw [List.countP_eq_length_filter, List.countP_eq_length_filter, hl]
theorem keys_mem {xs : List mIt} {x : Int32} : (∃ i, i < xs.length ∧ xk xs i = x) ↔ x ∈ xs.map Prod.fst := by
  rw [List.mem_map]
  constructor
  · rintro ⟨i, hi, rfl⟩
    exact ⟨xs[i], List.getElem_mem hi, by rw [xk_get hi]⟩
  · rintro ⟨z, hz, rfl⟩
    obtain ⟨i, hi, rfl⟩ := List.getElem_of_mem hz
    exact ⟨i, hi, by rw [xk_get hi]⟩
theorem unlike_eq {xs : List mIt} : mlp (ulS xs) (xs.length - 0) 0 (nI 0) = q_unlikeKeysOfSorted (msort xs).1 := by
  have ho := pairwise_it.mp (@msort_bk xs).sorted
  have hl : (msort xs).1.length = xs.length := msort_len
  have e1 : mlp (ulS xs) (xs.length - 0) 0 (nI 0) = nI ((List.range' 0 xs.length).countP (fun k => mq_isNew xs k)) := by
    refine (mlp_nI2 (c := fun k => mq_isNew xs k = true) (xs.length - 0) 0 0).trans ?_
    rw [Nat.zero_add, Nat.sub_zero]
    refine congrArg nI (List.countP_congr (fun k _ => ?_))
    rw [decide_eq_true_iff]
  have e2 : q_unlikeKeysOfSorted (msort xs).1 = nI ((List.range' 0 xs.length).countP (fun i => decide (i = 0 ∨ ¬ xk (msort xs).1 i = xk (msort xs).1 (i - 1)))) := by
    unfold q_unlikeKeysOfSorted
    rw [hl]
    refine (mlp_nI (c := fun i => i = 0 ∨ ¬ xk (msort xs).1 i = xk (msort xs).1 (i - 1)) (xs.length - 0) 0 0).trans ?_
    rw [Nat.zero_add, Nat.sub_zero]
  rw [e1, e2]
  refine congrArg nI (uniq_count (f := xk xs) (g := xk (msort xs).1) ?_ ?_ ?_ ?_ ?_)
  · intro i j hij hj _ h2 h3
    unfold mq_isNew at h2
    rw [mall_all] at h2
    have h4 := h2 i (Nat.zero_le _) (by omega)
    rw [decide_eq_true_iff] at h4
    exact h4 h3
  · intro i hi
    induction i using Nat.strongRecOn with
    | ind i ih =>
      by_cases h : mq_isNew xs i = true
      · exact ⟨i, hi, h, rfl⟩
      · unfold mq_isNew at h
        rw [mall_all] at h
        have h2 : ∃ o, o < i ∧ xk xs o = xk xs i := by
          refine Classical.byContradiction (fun z => h (fun o _ o2 => ?_))
          rw [decide_eq_true_iff]
          exact fun w => z ⟨o, by omega, w⟩
        obtain ⟨o, o1, o2⟩ := h2
        obtain ⟨j, j1, j2, j3⟩ := ih o o1 (by omega)
        exact ⟨j, j1, j2, j3.trans o2⟩
  · intro i j hij hj _ h2 h3
    rw [decide_eq_true_iff] at h2
    have h4 : ¬ xk (msort xs).1 j = xk (msort xs).1 (j - 1) := by
      rcases h2 with z | z
      · omega
      · exact z
    have o1 : ¬ xk (msort xs).1 j < xk (msort xs).1 (j - 1) := ho (j - 1) j (by omega) (by omega)
    have o2 : i = j - 1 ∨ ¬ xk (msort xs).1 (j - 1) < xk (msort xs).1 i := by
      by_cases z : i = j - 1
      · exact Or.inl z
      · exact Or.inr (ho i (j - 1) (by omega) (by omega))
    rw [Int32.lt_iff_toInt_lt] at o1
    rw [← Int32.toInt_inj] at h3 h4
    rcases o2 with z | z
    · rw [← z] at h4
      omega
    · rw [Int32.lt_iff_toInt_lt] at z
      omega
  · intro i hi
    induction i using Nat.strongRecOn with
    | ind i ih =>
      by_cases h : i = 0 ∨ ¬ xk (msort xs).1 i = xk (msort xs).1 (i - 1)
      · exact ⟨i, hi, decide_eq_true h, rfl⟩
      · have h1 : ¬ i = 0 := fun z => h (Or.inl z)
        have h2 : xk (msort xs).1 i = xk (msort xs).1 (i - 1) := Classical.byContradiction (fun z => h (Or.inr z))
        obtain ⟨j, j1, j2, j3⟩ := ih (i - 1) (by omega) (by omega)
        exact ⟨j, j1, j2, j3.trans h2.symm⟩
  · intro x
    have h1 := @keys_mem (msort xs).1 x
    rw [hl] at h1
    rw [keys_mem, h1]
    exact ((@msort_perm xs).map Prod.fst).mem_iff.symm
theorem eqV_unlike {S : cS} {row : Int32} : vEq (sp_unlike S row) (mp_unlike S row) := dAt_v (by decide) (fun r _ => vEq.of (congrArg Value.int unlike_eq))
/-! how often a key stands -/
def cnt (xs : List mIt) (k : Int32) : Nat := xs.countP (fun z => decide (z.1 = k))
theorem often_cnt {xs : List mIt} {k : Int32} : mq_often xs k (nI 0) = nI (cnt xs k) := by
  unfold mq_often cnt
  have h : mlp (ofS xs k (nI 0)) (xs.length - 0) 0 (nI 0) = nI (0 + (List.range' 0 (xs.length - 0)).countP (fun j => decide (sideF (xk xs j) k = nI 0))) := mlp_nI2 (c := fun j => sideF (xk xs j) k = nI 0) _ _ _
  rw [h, Nat.zero_add, Nat.sub_zero]
  refine congrArg nI ?_
  have h2 := take_range (xs := xs) (Nat.le_refl xs.length)
  rw [List.take_length] at h2
  conv => rhs; rw [← h2]
  rw [List.countP_map]
  refine List.countP_congr (fun j _ => ?_)
  rw [decide_eq_true_iff, side_0]
  show xk xs j = k ↔ decide (xk xs j = k) = true
  rw [decide_eq_true_iff]
theorem cnt_le {xs : List mIt} {k : Int32} : cnt xs k ≤ xs.length := List.countP_le_length
theorem cnt_pos {xs : List mIt} {i : Nat} (h : i < xs.length) : 0 < cnt xs (xk xs i) := List.countP_pos_iff.mpr ⟨xs[i], List.getElem_mem h, by rw [xk_get h]; exact decide_eq_true rfl⟩
theorem cnt_perm {xs ys : List mIt} (h : xs.Perm ys) (k : Int32) : cnt xs k = cnt ys k := h.countP_eq _
/-- k is the least of the commonest keys of the first s items -/
def isMost (xs : List mIt) (c : Int32 → Nat) (s : Nat) (k : Int32) (m : Nat) : Prop := c k = m ∧ (∃ i, i < s ∧ xk xs i = k) ∧ ∀ i, i < s → c (xk xs i) ≤ m ∧ (c (xk xs i) = m → ¬ xk xs i < k)
theorem most_go {xs : List mIt} (hL : xs.length < 2 ^ 30) : ∀ (d s : Nat) (k : Int32) (m : Nat), s + d = xs.length → 0 < s → isMost xs (cnt xs) s k m → ∃ k' m', mlp (moS xs) d s (k, nI m) = (k', nI m') ∧ isMost xs (cnt xs) xs.length k' m' := by
  intro d
  induction d with
  | zero => intro s k m h _ hm; exact ⟨k, m, rfl, by rw [show xs.length = s by omega]; exact hm⟩
  | succ d ih =>
    intro s k m h h0 hm
    obtain ⟨m1, ⟨i0, i1, i2⟩, m2⟩ := hm
    have hb := @cnt_le xs (xk xs s)
    have hm9 : m < 2 ^ 31 := by rw [← m1]; have := @cnt_le xs k; omega
    show ∃ k' m', mlp (moS xs) d (s + 1) (moS xs s (k, nI m)) = _ ∧ _
    unfold moS
    dsimp only
    rw [often_cnt]
    by_cases h1 : cnt xs (xk xs s) < m
    · rw [if_pos (nI_lt h1 hm9)]
      refine ih (s + 1) k m (by omega) (by omega) ⟨m1, ⟨i0, by omega, i2⟩, fun i hi => ?_⟩
      by_cases e : i = s
      · subst e; exact ⟨by omega, fun z => absurd z (by omega)⟩
      · exact m2 i (by omega)
    · rw [if_neg (nI_nlt (by omega) (by omega))]
      by_cases h2 : cnt xs (xk xs s) = m
      · rw [if_pos (congrArg nI h2)]
        by_cases h3 : xk xs s < k
        · rw [if_pos h3]
          refine ih (s + 1) _ _ (by omega) (by omega) ⟨rfl, ⟨s, by omega, rfl⟩, fun i hi => ?_⟩
          by_cases e : i = s
          · subst e; exact ⟨Nat.le_refl _, fun _ => by rw [Int32.lt_iff_toInt_lt]; omega⟩
          · obtain ⟨a, b⟩ := m2 i (by omega)
            refine ⟨by omega, fun z => ?_⟩
            have b2 := b (by omega)
            rw [Int32.lt_iff_toInt_lt] at b2 h3 ⊢
            omega
        · rw [if_neg h3]
          refine ih (s + 1) k m (by omega) (by omega) ⟨m1, ⟨i0, by omega, i2⟩, fun i hi => ?_⟩
          by_cases e : i = s
          · subst e; exact ⟨by omega, fun _ => h3⟩
          · exact m2 i (by omega)
      · rw [if_neg (fun z => h2 ((nI_eq (by omega) hm9).mp z))]
        refine ih (s + 1) _ _ (by omega) (by omega) ⟨rfl, ⟨s, by omega, rfl⟩, fun i hi => ?_⟩
        by_cases e : i = s
        · subst e; exact ⟨Nat.le_refl _, fun _ => by rw [Int32.lt_iff_toInt_lt]; omega⟩
        · obtain ⟨a, b⟩ := m2 i (by omega)
          exact ⟨by omega, fun z => absurd z (by omega)⟩
theorem isMost.uniq {xs ys : List mIt} {c : Int32 → Nat} {s t : Nat} {k k' : Int32} {m m' : Nat} (h1 : isMost xs c s k m) (h2 : isMost ys c t k' m') (hk : ∀ x, (∃ i, i < s ∧ xk xs i = x) ↔ ∃ i, i < t ∧ xk ys i = x) : k = k' := by
  obtain ⟨a1, a2, a3⟩ := h1
  obtain ⟨b1, b2, b3⟩ := h2
  obtain ⟨i, i1, i2⟩ := (hk k).mp a2
  obtain ⟨j, j1, j2⟩ := (hk k').mpr b2
  have c1 := b3 i i1
  have c2 := a3 j j1
  rw [i2] at c1
  rw [j2] at c2
  have d1 := c1.2 (by omega)
  have d2 := c2.2 (by omega)
  rw [Int32.lt_iff_toInt_lt] at d1 d2
  rw [← Int32.toInt_inj]
  omega
def cmS (ys : List mIt) (i : Nat) (p : Int32 × Int32 × Int32) : Int32 × Int32 × Int32 := let al := if 0 < i ∧ xk ys i = xk ys (i - 1) then p.2.2 + 1 else 1; if p.2.1 < al then (xk ys i, al, al) else (p.1, p.2.1, al)
theorem cnt_take {ys : List mIt} {s : Nat} (h : s < ys.length) (k : Int32) : cnt (ys.take (s + 1)) k = cnt (ys.take s) k + if xk ys s = k then 1 else 0 := by
  unfold cnt
  rw [take_it h, List.countP_append, List.countP_singleton]
  show _ + (if decide (xk ys s = k) = true then 1 else 0) = _
  simp only [decide_eq_true_eq]
theorem common_go {ys : List mIt} (hs : kSorted ys) (hL : ys.length < 2 ^ 30) : ∀ (d s : Nat) (k : Int32) (m a : Nat), s + d = ys.length → 0 < s → isMost ys (cnt (ys.take s)) s k m → a = cnt (ys.take s) (xk ys (s - 1)) → ∃ k' m' a', mlp (cmS ys) d s (k, nI m, nI a) = (k', nI m', a') ∧ isMost ys (cnt ys) ys.length k' m' := by
  have ho := pairwise_it.mp hs
  intro d
  induction d with
  | zero =>
    intro s k m a h _ hm _
    rw [List.take_of_length_le (by omega)] at hm
    exact ⟨k, m, nI a, rfl, by rw [show ys.length = s by omega]; exact hm⟩
  | succ d ih =>
    intro s k m a h h0 hm ha
    obtain ⟨m1, ⟨i0, i1, i2⟩, m2⟩ := hm
    have hs9 : s < ys.length := by omega
    have mb : m ≤ ys.length := by
      rw [← m1]
      have := @cnt_le (ys.take s) k
      rw [List.length_take] at this
      omega
    have le9 : ∀ i, i < s → ¬ xk ys s < xk ys i := fun i hi => ho i s hi hs9
    have al : (if 0 < s ∧ xk ys s = xk ys (s - 1) then nI a + 1 else 1) = nI (cnt (ys.take (s + 1)) (xk ys s)) := by
      rw [cnt_take hs9, if_pos rfl]
      by_cases e : xk ys s = xk ys (s - 1)
      · rw [if_pos ⟨h0, e⟩, ha, e, nI_1]
      · rw [if_neg (fun z => e z.2)]
        have z0 : cnt (ys.take s) (xk ys s) = 0 := by
          unfold cnt
          rw [List.countP_eq_zero]
          intro z hz
          obtain ⟨j, hj, rfl⟩ := List.getElem_of_mem hz
          rw [List.length_take] at hj
          rw [List.getElem_take, xk_get (by omega)]
          intro w
          have w2 : xk ys j = xk ys s := of_decide_eq_true w
          have o1 : ¬ xk ys s < xk ys (s - 1) := le9 (s - 1) (by omega)
          have o2 : j = s - 1 ∨ ¬ xk ys (s - 1) < xk ys j := by
            by_cases q : j = s - 1
            · exact Or.inl q
            · exact Or.inr (ho j (s - 1) (by omega) (by omega))
          rw [Int32.lt_iff_toInt_lt] at o1
          rw [← Int32.toInt_inj] at e w2
          rcases o2 with q | q
          · rw [q] at w2; omega
          · rw [Int32.lt_iff_toInt_lt] at q; omega
        rw [z0]
        rfl
    have cb : cnt (ys.take (s + 1)) (xk ys s) ≤ ys.length := by
      have := @cnt_le (ys.take (s + 1)) (xk ys s)
      rw [List.length_take] at this
      omega
    show ∃ k' m' a', mlp (cmS ys) d (s + 1) (cmS ys s (k, nI m, nI a)) = _ ∧ _
    unfold cmS
    dsimp only
    rw [al]
    by_cases h1 : m < cnt (ys.take (s + 1)) (xk ys s)
    · rw [if_pos (nI_lt h1 (by omega))]
      refine ih (s + 1) _ _ _ (by omega) (by omega) ⟨rfl, ⟨s, by omega, rfl⟩, fun i hi => ?_⟩ (by rw [Nat.add_sub_cancel])
      by_cases e : xk ys i = xk ys s
      · rw [e]; exact ⟨Nat.le_refl _, fun _ => by rw [Int32.lt_iff_toInt_lt]; omega⟩
      · have i9 : i < s := by
          rcases Nat.lt_or_ge i s with z | z
          · exact z
          · exact absurd (by rw [show i = s by omega]) e
        obtain ⟨p, q⟩ := m2 i i9
        have e2 : cnt (ys.take (s + 1)) (xk ys i) = cnt (ys.take s) (xk ys i) := by rw [cnt_take hs9, if_neg (fun z => e z.symm)]; rfl
        rw [e2]
        exact ⟨by omega, fun z => absurd z (by omega)⟩
    · rw [if_neg (nI_nlt (by omega) (by omega))]
      have kne : ¬ xk ys s = k := by
        intro z
        have e2 := cnt_take hs9 k
        rw [if_pos z] at e2
        rw [z] at h1
        omega
      refine ih (s + 1) k m _ (by omega) (by omega) ⟨?_, ⟨i0, by omega, i2⟩, fun i hi => ?_⟩ (by rw [Nat.add_sub_cancel])
      · rw [cnt_take hs9, if_neg kne]; exact m1
      · by_cases e : xk ys i = xk ys s
        · rw [e]
          refine ⟨by omega, fun _ => ?_⟩
          rw [← i2]
          exact le9 i0 i1
        · have i9 : i < s := by
            rcases Nat.lt_or_ge i s with z | z
            · exact z
            · exact absurd (by rw [show i = s by omega]) e
          have e2 : cnt (ys.take (s + 1)) (xk ys i) = cnt (ys.take s) (xk ys i) := by rw [cnt_take hs9, if_neg (fun z => e z.symm)]; rfl
          rw [e2]
          exact m2 i i9
theorem most_eq {xs : List mIt} (hL : xs.length ≤ 320) : (mlp (moS xs) (xs.length - 0) 0 ((-100000), nI 0)).1 = q_commonestKeyOfSorted (msort xs).1 := by
  have hl : (msort xs).1.length = xs.length := msort_len
  rcases Nat.eq_zero_or_pos xs.length with e | e
  · rw [List.eq_nil_of_length_eq_zero e]
    rfl
  · rw [show xs.length - 0 = (xs.length - 1) + 1 by omega]
    have f1 : moS xs 0 ((-100000), nI 0) = (xk xs 0, nI (cnt xs (xk xs 0))) := by
      unfold moS
      dsimp only
      have c0 := cnt_pos e
      have c1 := @cnt_le xs (xk xs 0)
      rw [often_cnt, if_neg (nI_nlt (Nat.zero_le _) (by omega)), if_neg (fun z => by have := (nI_eq (by omega) (by decide)).mp z; omega)]
    obtain ⟨k1, m1, r1, r2⟩ := most_go (xs := xs) (by omega) (xs.length - 1) 1 (xk xs 0) (cnt xs (xk xs 0)) (by omega) (by decide) ⟨rfl, ⟨0, by decide, rfl⟩, fun i hi => by
      obtain rfl : i = 0 := by omega
      exact ⟨Nat.le_refl _, fun _ => by rw [Int32.lt_iff_toInt_lt]; omega⟩⟩
    have g1 : (mlp (moS xs) (xs.length - 1 + 1) 0 ((-100000), nI 0)).1 = k1 := by
      show (mlp (moS xs) (xs.length - 1) 1 (moS xs 0 ((-100000), nI 0))).1 = k1
      rw [f1, r1]
    rw [g1]
    have hy0 : 0 < (msort xs).1.length := by omega
    have f2 : cmS (msort xs).1 0 ((-100000), nI 0, nI 0) = (xk (msort xs).1 0, nI 1, nI 1) := by
      unfold cmS
      dsimp only
      have e9 : (if (0 : Nat) < 0 ∧ xk (msort xs).1 0 = xk (msort xs).1 (0 - 1) then nI 0 + 1 else (1 : Int32)) = nI 1 := if_neg (fun z => absurd z.1 (by decide))
      rw [e9, if_pos (show nI 0 < nI 1 by decide)]
    have t1 : ∀ k, cnt ((msort xs).1.take 1) k = if xk (msort xs).1 0 = k then 1 else 0 := fun k => by
      rw [cnt_take hy0, List.take_zero]
      exact Nat.zero_add _
    obtain ⟨k2, m2, a2, s1, s2⟩ := common_go (ys := (msort xs).1) msort_bk.sorted (by omega) ((msort xs).1.length - 1) 1 (xk (msort xs).1 0) 1 1 (by omega) (by decide) ⟨by rw [t1, if_pos rfl], ⟨0, by decide, rfl⟩, fun i hi => by
      obtain rfl : i = 0 := by omega
      exact ⟨by rw [t1, if_pos rfl]; exact Nat.le_refl _, fun _ => by rw [Int32.lt_iff_toInt_lt]; omega⟩⟩ (by rw [t1, if_pos rfl])
    have g2 : q_commonestKeyOfSorted (msort xs).1 = k2 := by
      unfold q_commonestKeyOfSorted
      rw [show (msort xs).1.length - 0 = ((msort xs).1.length - 1) + 1 by omega]
      show (mlp (cmS (msort xs).1) ((msort xs).1.length - 1) 1 (cmS (msort xs).1 0 ((-100000), nI 0, nI 0))).1 = k2
      rw [f2, s1]
    rw [g2]
    have s3 : isMost (msort xs).1 (cnt xs) (msort xs).1.length k2 m2 := by
      rw [show cnt xs = cnt (msort xs).1 from funext fun k => (cnt_perm msort_perm k).symm]
      exact s2
    refine r2.uniq s3 (fun x => ?_)
    rw [keys_mem, keys_mem]
    exact ((@msort_perm xs).map Prod.fst).mem_iff.symm
theorem eqV_most {S : cS} {row : Int32} (hS : lenOk S) : vEq (sp_most S row) (mp_most S row) := dAt_v (by decide) (fun r hr => vEq.of (congrArg Value.int (most_eq (hS.le hr))))
/-! bags -/
theorem perm_of_counts {l1 : List Int32} : ∀ {l2 : List Int32}, l2.length ≤ l1.length → (∀ x ∈ l1, l1.count x ≤ l2.count x) → l1.Perm l2 := by
  induction l1 with
  | nil => intro l2 h _; rw [List.eq_nil_of_length_eq_zero (Nat.le_zero.mp h)]
  | cons a l ih =>
    intro l2 h hc
    have ha : a ∈ l2 := by
      have := hc a List.mem_cons_self
      rw [List.count_cons_self] at this
      exact List.count_pos_iff.mp (by omega)
    have hp := List.perm_cons_erase ha
    refine (List.Perm.cons a (ih ?_ (fun x hx => ?_))).trans hp.symm
    · rw [List.length_erase_of_mem ha]
      rw [List.length_cons] at h
      omega
    · have h1 := hc x (List.mem_cons_of_mem _ hx)
      rw [hp.count_eq x, List.count_cons, List.count_cons] at h1
      omega
theorem cnt_count {xs : List mIt} {k : Int32} : cnt xs k = (xs.map Prod.fst).count k := by
  unfold cnt List.count
  rw [List.countP_map]
  refine List.countP_congr (fun z _ => ?_)
  show decide (z.1 = k) = true ↔ (z.1 == k) = true
  rw [decide_eq_true_iff, beq_iff_eq]
theorem bag_go {xs ys : List mIt} (hx : xs.length < 2 ^ 31) (hy : ys.length < 2 ^ 31) : ∀ (d s : Nat) (b : Bool), mlp (bgS xs ys) d s b = true ↔ b = true ∧ ∀ i, s ≤ i → i < s + d → cnt xs (xk xs i) = cnt ys (xk xs i) := by
  intro d
  induction d with
  | zero => intro s b; exact ⟨fun h => ⟨h, fun i h1 h2 => absurd h2 (by omega)⟩, fun h => h.1⟩
  | succ d ih =>
    intro s b
    show mlp (bgS xs ys) d (s + 1) (bgS xs ys s b) = true ↔ _
    rw [ih]
    unfold bgS
    rw [Bool.and_eq_true, decide_eq_true_iff, often_cnt, often_cnt, nI_eq (Nat.lt_of_le_of_lt cnt_le hx) (Nat.lt_of_le_of_lt cnt_le hy)]
    constructor
    · rintro ⟨⟨h1, h2⟩, h3⟩
      refine ⟨h1, fun i i1 i2 => ?_⟩
      by_cases e : i = s
      · subst e; exact h2
      · exact h3 i (by omega) (by omega)
    · rintro ⟨h1, h2⟩
      exact ⟨⟨h1, h2 s (Nat.le_refl _) (by omega)⟩, fun i i1 i2 => h2 i (by omega) (by omega)⟩
theorem other_0 {xs ys : List mIt} (hl : xs.length = ys.length) (hL : xs.length < 2 ^ 31) : q_otherKeys xs ys = 0 ↔ ∀ i, i < xs.length → xk xs i = xk ys i := by
  unfold q_otherKeys
  rw [← hl, Nat.min_self]
  have h : mlp (fun i (acc : Int32) => if xk xs i = xk ys i then acc else acc + 1) (xs.length - 0) 0 (nI 0) = nI (0 + (List.range' 0 (xs.length - 0)).countP (fun j => decide (¬ xk xs j = xk ys j))) := by
    rw [← mlp_nI (c := fun j => ¬ xk xs j = xk ys j)]
    refine mlp_congr (fun j b _ _ => ?_)
    by_cases e : xk xs j = xk ys j
    · rw [if_pos e, if_neg (fun z => z e)]
    · rw [if_neg e, if_pos e]
  have hb : (List.range' 0 (xs.length - 0)).countP (fun j => decide (¬ xk xs j = xk ys j)) ≤ (List.range' 0 (xs.length - 0)).length := List.countP_le_length
  rw [List.length_range'] at hb
  rw [h, Nat.zero_add, mI_eq0 (by omega), List.countP_eq_zero]
  constructor
  · intro z i hi
    have := z i (List.mem_range'_1.mpr ⟨Nat.zero_le _, by omega⟩)
    rw [decide_eq_true_iff] at this
    exact Classical.byContradiction (fun w => this w)
  · intro z i hi
    have h9 := List.mem_range'_1.mp hi
    rw [decide_eq_true_iff]
    exact fun w => w (z i (by omega))
theorem keys_eq {xs ys : List mIt} (hl : xs.length = ys.length) : (∀ i, i < xs.length → xk xs i = xk ys i) ↔ xs.map Prod.fst = ys.map Prod.fst := by
  constructor
  · intro h
    refine List.ext_getElem (by rw [List.length_map, List.length_map, hl]) (fun i h1 h2 => ?_)
    rw [List.length_map] at h1 h2
    rw [List.getElem_map, List.getElem_map, xk_get h1, xk_get h2]
    exact h i h1
  · intro h i hi
    have h2 : (xs.map Prod.fst)[i]? = (ys.map Prod.fst)[i]? := by rw [h]
    rw [List.getElem?_map, List.getElem?_map, List.getElem?_eq_getElem hi, List.getElem?_eq_getElem (show i < ys.length by omega), xk_get hi, xk_get (show i < ys.length by omega)] at h2
    exact Option.some.inj h2
theorem eqV_bag {S : cS} {row other : Int32} (hS : lenOk S) : vEq (sp_bag S row other) (mp_bag S row other) := dAt_v (by decide) (fun r hr => dAt_v (by decide) (fun q hq => vEq.of (mb_iff (by
  have h1 := hS.lt hr
  have h2 := hS.lt hq
  generalize S.1 r = xs at h1
  generalize S.1 q = ys at h2
  rw [bag_go (by omega) (by omega), Bool.and_eq_true, decide_eq_true_iff]
  constructor
  · rintro ⟨hl, h⟩
    refine ⟨hl, ?_⟩
    have hl2 : (msort xs).1.length = (msort ys).1.length := by rw [msort_len, msort_len, hl]
    rw [decide_eq_true_iff, other_0 hl2 (by rw [msort_len]; omega), keys_eq hl2]
    have hp : (xs.map Prod.fst).Perm (ys.map Prod.fst) := perm_of_counts (by rw [List.length_map, List.length_map]; omega) (fun x hx => by
      obtain ⟨i, hi, rfl⟩ := keys_mem.mpr hx
      rw [← cnt_count, ← cnt_count, h i (Nat.zero_le _) (by omega)]
      exact Nat.le_refl _)
    have hp2 : ((msort xs).1.map Prod.fst).Perm ((msort ys).1.map Prod.fst) := ((msort_perm.map Prod.fst).trans hp).trans (msort_perm.map Prod.fst).symm
    have so : ∀ zs : List mIt, kSorted zs → (zs.map Prod.fst).Pairwise (fun a b => ¬ b < a) := fun zs hz => List.pairwise_map.mpr hz
    exact hp2.eq_of_pairwise (fun a b _ _ u v => by rw [Int32.lt_iff_toInt_lt] at u v; rw [← Int32.toInt_inj]; omega) (so _ msort_bk.sorted) (so _ msort_bk.sorted)
  · rintro ⟨hl, h⟩
    refine ⟨hl, fun i _ hi => ?_⟩
    have hl2 : (msort xs).1.length = (msort ys).1.length := by rw [msort_len, msort_len, hl]
    rw [decide_eq_true_iff, other_0 hl2 (by rw [msort_len]; omega), keys_eq hl2] at h
    rw [← cnt_perm msort_perm, ← cnt_perm (@msort_perm ys), cnt_count, cnt_count, h]))))
/-! the digest -/
theorem row_digest {S : cS} (hS : lenOk S) {i : Nat} (hi : i < 4) (d : Int64) : mdRow S i d = dgRow S i d := by
  have e : mdRow S i d = ((((((((d * 31 + (mdA S i 0).toInt64) * 31 + (mdA S i 1).toInt64) * 31 + (mdA S i 2).toInt64) * 31 + (mdA S i 3).toInt64) * 31 + (mdA S i 4).toInt64) * 31 + (mdA S i 5).toInt64) * 31 + (mdA S i 6).toInt64) * 31 + (mdA S i 7).toInt64) * 31 + (mdA S i 8).toInt64 := rfl
  have e3 : mdA S i 3 = (msort (S.1 i)).2 := msort_wrong.symm
  have e4 : mdA S i 4 = q_tiedPairsOfSorted (msort (S.1 i)).1 := ties_eq
  have e5 : mdA S i 5 = q_runsInAll (S.1 i) := runs_eq
  have e6 : mdA S i 6 = q_longestRun (S.1 i) := longest_eq (hS.le hi)
  have e8 : mdA S i 8 = q_unlikeKeysOfSorted (msort (S.1 i)).1 := unlike_eq
  rw [e, e3, e4, e5, e6, e8]
  rfl
theorem digest_eq {h : mH} {S : cS} (C : cAt h S) : q_digest S = mq_digest S := by
  have hS : lenOk S := fun r hr => (C.2.2.2.1 r hr).len.1
  unfold q_digest mq_digest
  rw [sound_eq C]
  have e1 : mlp (mdRow S) (4 - 0) 0 8007 = mlp (dgRow S) (4 - 0) 0 8007 := mlp_congr (fun j b _ hj => row_digest hS (by omega) b)
  have e2 : ∀ a : Int64, mlp (mdHouse S) (6 - 0) 0 a = mlp (dgHouse S) (6 - 0) 0 a := fun a => mlp_congr (fun j b _ hj => by unfold mdHouse dgHouse; rw [house_eq hS])
  rw [e1, e2]
  rfl
