/-! ===== the sorted row: by merging (the class), by ranks (the reference): one list ===== -/
def it (xs : List mIt) (k : Nat) : mIt := (xk xs k, xt xs k)
def rl (xs : List mIt) (a b : Nat) : Bool := decide (xk xs a < xk xs b) || (decide (xk xs a = xk xs b) && decide (a ≤ b))
theorem rl_iff {xs : List mIt} {a b : Nat} : rl xs a b = true ↔ (xk xs a).toInt < (xk xs b).toInt ∨ ((xk xs a).toInt = (xk xs b).toInt ∧ a ≤ b) := by
  unfold rl
  rw [Bool.or_eq_true, Bool.and_eq_true, decide_eq_true_iff, decide_eq_true_iff, decide_eq_true_iff, Int32.lt_iff_toInt_lt, ← Int32.toInt_inj]
theorem rl_trans {xs : List mIt} (a b c : Nat) : rl xs a b = true → rl xs b c = true → rl xs a c = true := by
  rw [rl_iff, rl_iff, rl_iff]
  omega
theorem rl_total {xs : List mIt} (a b : Nat) : (rl xs a b || rl xs b a) = true := by
  rw [Bool.or_eq_true, rl_iff, rl_iff]
  omega
theorem rl_anti {xs : List mIt} {a b : Nat} (h : rl xs a b = true) (h2 : rl xs b a = true) : a = b := by
  rw [rl_iff] at h h2
  omega
theorem rl_wle {xs : List mIt} {a b : Nat} (h : a < b) : rl xs a b = wle (it xs a) (it xs b) := by
  have e : wle (it xs a) (it xs b) = true ↔ ¬ (xk xs b).toInt < (xk xs a).toInt := by
    unfold wle it
    rw [Bool.not_eq_true', decide_eq_false_iff_not, Int32.lt_iff_toInt_lt]
  cases h1 : wle (it xs a) (it xs b) with
  | true =>
    have h2 := e.mp h1
    rw [rl_iff]
    omega
  | false =>
    rw [Bool.eq_false_iff]
    intro h2
    rw [rl_iff] at h2
    have h3 : ¬ ¬ (xk xs b).toInt < (xk xs a).toInt := fun z => by rw [e.mpr z] at h1; cases h1
    omega
theorem merge_map {α β : Type} {f : α → β} {r : α → α → Bool} {s : β → β → Bool} : ∀ (l l' : List α), (∀ a ∈ l, ∀ b ∈ l', r a b = s (f a) (f b)) → (List.merge l l' r).map f = List.merge (l.map f) (l'.map f) s := by
  intro l
  induction l with
  | nil => intro l' h; simp
  | cons a l ih =>
    intro l'
    induction l' with
    | nil => intro h; simp
    | cons b l' ih2 =>
      intro h
      have h0 := h a List.mem_cons_self b List.mem_cons_self
      rw [List.cons_merge_cons, List.map_cons, List.map_cons, List.cons_merge_cons, ← h0]
      split
      · rw [List.map_cons, ih (b :: l') (fun x hx y hy => h x (List.mem_cons_of_mem _ hx) y hy), List.map_cons]
      · rw [List.map_cons, ih2 (fun x hx y hy => h x hx y (List.mem_cons_of_mem _ hy)), List.map_cons]
/-- the items of the places s .. e - 1, in order -/
def Bk (xs : List mIt) (s e : Nat) (zs : List mIt) : Prop := ∃ B : List Nat, zs = B.map (it xs) ∧ B.Pairwise (fun a b => rl xs a b = true) ∧ B.Perm (List.range' s (e - s))
theorem Bk.merge {xs as bs : List mIt} {s m e : Nat} (hsm : s ≤ m) (hme : m ≤ e) (h1 : Bk xs s m as) (h2 : Bk xs m e bs) : Bk xs s e (List.merge as bs wle) := by
  obtain ⟨A, rfl, pA, qA⟩ := h1
  obtain ⟨B, rfl, pB, qB⟩ := h2
  refine ⟨List.merge A B (rl xs), (merge_map (f := it xs) (r := rl xs) (s := wle) A B (fun a ha b hb => rl_wle ?_)).symm, List.pairwise_merge rl_trans rl_total A B pA pB, ?_⟩
  · have h3 := qA.mem_iff.mp ha
    have h4 := qB.mem_iff.mp hb
    rw [List.mem_range'_1] at h3 h4
    omega
  · have h5 : List.range' s (m - s) ++ List.range' m (e - m) = List.range' s (e - s) := by
      have h6 := List.range'_append_1 (s := s) (m := m - s) (n := e - m)
      rw [show s + (m - s) = m by omega, show m - s + (e - m) = e - s by omega] at h6
      exact h6
    rw [← h5]
    exact List.Perm.trans (List.merge_perm_append (rl xs)) (List.Perm.append qA qB)
theorem Bk.uniq {xs as bs : List mIt} {s e : Nat} (h1 : Bk xs s e as) (h2 : Bk xs s e bs) : as = bs := by
  obtain ⟨A, rfl, pA, qA⟩ := h1
  obtain ⟨B, rfl, pB, qB⟩ := h2
  rw [List.Perm.eq_of_pairwise (fun a b _ _ h3 h4 => rl_anti h3 h4) pA pB (qA.trans qB.symm)]
theorem Bk.nil {xs : List mIt} {s e : Nat} (h : e ≤ s) : Bk xs s e [] := ⟨[], rfl, List.Pairwise.nil, by rw [show e - s = 0 by omega]; exact List.Perm.refl _⟩
/-- a rising stretch is in order as it is -/
theorem Bk.rising {xs : List mIt} {s e : Nat} (h : ∀ i j, s ≤ i → i < j → j < e → ¬ xk xs j < xk xs i) : Bk xs s e ((List.range' s (e - s)).map (it xs)) := by
  refine ⟨_, rfl, ?_, List.Perm.refl _⟩
  refine (List.pairwise_lt_range' (s := s) (n := e - s)).imp_of_mem (fun {a b} ha hb hab => ?_)
  rw [List.mem_range'_1] at ha hb
  have h1 := h a b (by omega) hab (by omega)
  rw [Int32.lt_iff_toInt_lt] at h1
  rw [rl_iff]
  omega
theorem span_map {xs : List mIt} {e : Nat} (he : e ≤ xs.length) : ∀ (d s : Nat), s + d = e → span xs s e = (List.range' s d).map (it xs) := by
  intro d
  induction d with
  | zero =>
    intro s h
    unfold span
    rw [List.drop_eq_nil_of_le (by rw [List.length_take]; omega)]
    rfl
  | succ d ih =>
    intro s h
    rw [span_cons (by omega) he, ih (s + 1) (by omega), List.range'_succ, List.map_cons]
    rfl
theorem mlp_count {c : Nat → Prop} {dc : ∀ j, Decidable (c j)} : ∀ (d s a : Nat), mlp (fun j acc => if c j then acc + 1 else acc) d s a = a + (List.range' s d).countP (fun j => decide (c j)) := by
  intro d
  induction d with
  | zero => intro s a; rfl
  | succ d ih =>
    intro s a
    rw [List.range'_succ, List.countP_cons]
    show mlp _ d (s + 1) (if c s then a + 1 else a) = _
    rw [ih]
    by_cases h : c s
    · rw [if_pos h, if_pos (by simpa using h)]; omega
    · rw [if_neg h, if_neg (by simpa using h)]; omega
theorem rank_at {xs : List mIt} {P : List Nat} (hp : P.Pairwise (fun a b => rl xs a b = true)) (hq : P.Perm (List.range' 0 xs.length)) {i : Nat} (hi : i < P.length) : rankf xs P[i] = i := by
  have hnd : P.Nodup := hq.nodup_iff.mpr (List.nodup_range' (s := 0) (n := xs.length))
  unfold rankf
  rw [mlp_count, Nat.sub_zero, Nat.zero_add, ← hq.countP_eq]
  have hs : P = P.take i ++ (P[i] :: P.drop (i + 1)) := by rw [← List.drop_eq_getElem_cons hi, List.take_append_drop]
  have hp2 := hp
  have hn2 := hnd
  rw [hs] at hp2 hn2
  obtain ⟨p1, p2, p3⟩ := List.pairwise_append.mp hp2
  obtain ⟨p4, p5⟩ := List.pairwise_cons.mp p2
  obtain ⟨n1, n2, n3⟩ := List.nodup_append.mp hn2
  obtain ⟨n4, n5⟩ := List.nodup_cons.mp n2
  have key : ∀ (c : Nat → Bool), (∀ a ∈ P.take i, c a = true) → c P[i] = false → (∀ a ∈ P.drop (i + 1), c a = false) → P.countP c = i := by
    intro c c1 c2 c3
    have e1 : (P.take i ++ (P[i] :: P.drop (i + 1))).countP c = i := by
      rw [List.countP_append, List.countP_cons_of_neg (by rw [c2]; decide), List.countP_eq_length.mpr c1, List.countP_eq_zero.mpr (fun a ha => by rw [c3 a ha]; decide), List.length_take]
      omega
    rwa [← hs] at e1
  refine key _ (fun a ha => ?_) ?_ (fun a ha => ?_)
  · have h1 := p3 a ha P[i] List.mem_cons_self
    have h2 : a ≠ P[i] := n3 a ha P[i] List.mem_cons_self
    rw [rl_iff] at h1
    rw [decide_eq_true_iff, Int32.lt_iff_toInt_lt, ← Int32.toInt_inj]
    omega
  · rw [decide_eq_false_iff_not, Int32.lt_iff_toInt_lt]
    omega
  · have h1 := p4 a ha
    have h2 : a ≠ P[i] := fun z => n4 (z ▸ ha)
    rw [rl_iff] at h1
    rw [decide_eq_false_iff_not, Int32.lt_iff_toInt_lt, ← Int32.toInt_inj]
    omega
theorem scat_of {xs : List mIt} {i K : Nat} : ∀ (d s : Nat) (p : Nat → Nat), (∀ k, s ≤ k → k < s + d → rankf xs k = i → k = K) → ((s ≤ K ∧ K < s + d ∧ rankf xs K = i) ∨ p i = K) → mlp (scS xs) d s p i = K := by
  intro d
  induction d with
  | zero =>
    intro s p _ h
    rcases h with h | h
    · omega
    · exact h
  | succ d ih =>
    intro s p h1 h2
    refine ih (s + 1) (scS xs s p) (fun k k1 k2 k3 => h1 k (by omega) (by omega) k3) ?_
    by_cases hs : i = rankf xs s
    · exact Or.inr ((if_pos hs).trans (h1 s (Nat.le_refl _) (by omega) hs.symm))
    · rcases h2 with ⟨h3, h4, h5⟩ | h2
      · by_cases e : s = K
        · subst e
          exact absurd h5.symm hs
        · exact Or.inl ⟨by omega, by omega, h5⟩
      · exact Or.inr ((if_neg hs).trans h2)
/-- by ranks -/
theorem rank_bk {xs zs : List mIt} (h : Bk xs 0 xs.length zs) : chF xs (scat xs) xs.length = zs := by
  obtain ⟨P, rfl, hp, hq⟩ := h
  rw [Nat.sub_zero] at hq
  have hl : P.length = xs.length := by rw [hq.length_eq, List.length_range']
  apply List.ext_getElem
  · rw [chF_l, List.length_map, hl]
  · intro i h1 h2
    rw [chF_l] at h1
    have hi : i < P.length := by omega
    have e : scat xs i = P[i] := by
      unfold scat
      refine scat_of _ _ _ (fun k k1 k2 k3 => ?_) (Or.inl ⟨Nat.zero_le _, ?_, rank_at hp hq hi⟩)
      · have hk : k ∈ P := hq.mem_iff.mpr (List.mem_range'_1.mpr ⟨Nat.zero_le _, by omega⟩)
        obtain ⟨j, hj, rfl⟩ := List.getElem_of_mem hk
        have := rank_at hp hq hj
        rw [this] at k3
        subst k3
        rfl
      · have := List.mem_range'_1.mp (hq.mem_iff.mp (List.getElem_mem hi))
        omega
    rw [xk_get (by rw [chF_l]; exact h1), List.getElem_map]
    unfold chF it
    rw [xk_zip h1, xt_zip h1, e]
/-! by merging -/
def Blk (xs : List mIt) (wd : Nat) (ys : List mIt) : Prop := ys.length = xs.length ∧ ∀ s, s < xs.length → wd ∣ s → Bk xs s (min (s + wd) xs.length) (span ys s (min (s + wd) xs.length))
theorem mpass_span {ys : List mIt} {wd : Nat} (hw : 0 < wd) : ∀ (d s : Nat) (p : List mIt × Int32), ys.length ≤ s + d → p.1.length = min s ys.length → (mpass ys wd d s p).1.take p.1.length = p.1 ∧ ∀ s', s ≤ s' → 2 * wd ∣ s' - s → s' < ys.length → span (mpass ys wd d s p).1 s' (min (s' + 2 * wd) ys.length) = List.merge (span ys s' (min (s' + wd) ys.length)) (span ys (min (s' + wd) ys.length) (min (s' + 2 * wd) ys.length)) wle := by
  intro d
  induction d with
  | zero =>
    intro s p h hp
    exact ⟨List.take_length, fun s' h1 _ h3 => absurd h3 (by omega)⟩
  | succ d ih =>
    intro s p h hp
    by_cases hs : s < ys.length
    · rw [mpass, if_pos hs]
      have hM : (List.merge (span ys s (min (s + wd) ys.length)) (span ys (min (s + wd) ys.length) (min (s + 2 * wd) ys.length)) wle).length = min (s + 2 * wd) ys.length - s := by
        rw [List.length_merge, span_len (Nat.min_le_right _ _), span_len (Nat.min_le_right _ _)]
        omega
      obtain ⟨i1, i2⟩ := ih (s + 2 * wd) (p.1 ++ List.merge (span ys s (min (s + wd) ys.length)) (span ys (min (s + wd) ys.length) (min (s + 2 * wd) ys.length)) wle, p.2 + winv (span ys s (min (s + wd) ys.length)) (span ys (min (s + wd) ys.length) (min (s + 2 * wd) ys.length))) (by omega) (by rw [List.length_append, hM]; omega)
      generalize (mpass ys wd d (s + 2 * wd) (p.1 ++ List.merge (span ys s (min (s + wd) ys.length)) (span ys (min (s + wd) ys.length) (min (s + 2 * wd) ys.length)) wle, p.2 + winv (span ys s (min (s + wd) ys.length)) (span ys (min (s + wd) ys.length) (min (s + 2 * wd) ys.length)))).1 = R at i1 i2
      dsimp only at i1
      refine ⟨?_, fun s' h1 h2 h3 => ?_⟩
      · have := congrArg (List.take p.1.length) i1
        rw [List.take_take, List.take_left, Nat.min_eq_left (by rw [List.length_append]; omega)] at this
        exact this
      · by_cases e : s' = s
        · subst e
          unfold span
          rw [show min (s' + 2 * wd) ys.length = (p.1 ++ List.merge (span ys s' (min (s' + wd) ys.length)) (span ys (min (s' + wd) ys.length) (min (s' + 2 * wd) ys.length)) wle).length by rw [List.length_append, hM]; omega, i1]
          rw [List.drop_append_of_le_length (by omega), List.drop_eq_nil_of_le (by omega), List.nil_append]
          rw [show (p.1 ++ List.merge (span ys s' (min (s' + wd) ys.length)) (span ys (min (s' + wd) ys.length) (min (s' + 2 * wd) ys.length)) wle).length = min (s' + 2 * wd) ys.length by rw [List.length_append, hM]; omega]
          rfl
        · obtain ⟨k, hk⟩ := h2
          have hk0 : 0 < k := by
            rcases Nat.eq_zero_or_pos k with z | z
            · subst z; omega
            · exact z
          obtain ⟨k', rfl⟩ : ∃ k', k = k' + 1 := ⟨k - 1, by omega⟩
          rw [Nat.mul_add, Nat.mul_one] at hk
          exact i2 s' (by omega) ⟨k', by omega⟩ h3
    · rw [mpass, if_neg hs]
      exact ⟨List.take_length, fun s' h1 _ h3 => absurd h3 (by omega)⟩
theorem Blk.round {xs ys : List mIt} {wd : Nat} (hw : 0 < wd) (h : Blk xs wd ys) : Blk xs (wd * 2) (mround ys wd).1 := by
  obtain ⟨h1, h2⟩ := h
  refine ⟨(mround_len hw).trans h1, fun s hs hd => ?_⟩
  have h3 := (mpass_span (ys := ys) hw ys.length 0 ([], nI 0) (by omega) (by simp)).2 s (Nat.zero_le _) (by rw [Nat.sub_zero, Nat.mul_comm]; exact hd) (by omega)
  rw [h1] at h3
  unfold mround
  rw [h1, Nat.mul_comm wd 2, h3]
  have d1 : wd ∣ s := Nat.dvd_trans ⟨2, rfl⟩ hd
  refine Bk.merge (by omega) (by omega) (h2 s hs d1) ?_
  by_cases e : s + wd < xs.length
  · rw [Nat.min_eq_left (by omega), show s + 2 * wd = s + wd + wd by omega]
    exact h2 (s + wd) e (Nat.dvd_add d1 (Nat.dvd_refl _))
  · rw [Nat.min_eq_right (by omega), Nat.min_eq_right (by omega)]
    unfold span
    rw [List.drop_eq_nil_of_le (by rw [List.length_take]; omega)]
    exact Bk.nil (Nat.le_refl _)
theorem Blk.all {xs ys : List mIt} {wd : Nat} (h : Blk xs wd ys) (hw : xs.length ≤ wd) : Bk xs 0 xs.length ys := by
  obtain ⟨h1, h2⟩ := h
  rcases Nat.eq_zero_or_pos xs.length with e | e
  · rw [e] at h1
    rw [List.eq_nil_of_length_eq_zero h1]
    exact Bk.nil (by omega)
  · have h3 := h2 0 e ⟨0, rfl⟩
    rw [Nat.zero_add, Nat.min_eq_right hw, ← h1, span_all] at h3
    rw [← h1]
    exact h3
theorem msrt_bk {xs : List mIt} : ∀ (d wd : Nat) (p : List mIt × Int32), 0 < wd → xs.length ≤ wd + d → Blk xs wd p.1 → Bk xs 0 xs.length (msrt d wd p).1 := by
  intro d
  induction d with
  | zero => intro wd p hw h hb; exact hb.all (by omega)
  | succ d ih =>
    intro wd p hw h hb
    rw [msrt]
    by_cases q : wd < p.1.length
    · rw [if_pos q]
      exact ih (wd * 2) _ (by omega) (by omega) (hb.round hw)
    · rw [if_neg q]
      exact hb.all (by have := hb.1; omega)
theorem msort_bk {xs : List mIt} : Bk xs 0 xs.length (msort xs).1 := by
  refine msrt_bk _ _ _ (by decide) (by omega) ⟨rfl, fun s hs _ => ?_⟩
  rw [Nat.min_eq_left (by omega)]
  show Bk xs s (s + 1) (span xs s (s + 1))
  rw [span_map (by omega) 1 s rfl]
  exact ⟨[s], rfl, List.pairwise_singleton _ _, by rw [show s + 1 - s = 1 by omega]; exact List.Perm.refl _⟩
/-- the class's sorted row is the reference's -/
theorem msort_scat {xs : List mIt} : chF xs (scat xs) xs.length = (msort xs).1 := rank_bk msort_bk
/-- rising, pair by pair -/
theorem mall_all {p : Nat → Bool} : ∀ (d i : Nat), mall p d i = true ↔ ∀ j, i ≤ j → j < i + d → p j = true := by
  intro d
  induction d with
  | zero => intro i; exact ⟨fun _ j h1 h2 => absurd h2 (by omega), fun _ => rfl⟩
  | succ d ih =>
    intro i
    show (p i && mall p d (i + 1)) = true ↔ _
    rw [Bool.and_eq_true, ih]
    constructor
    · rintro ⟨h1, h2⟩ j j1 j2
      by_cases e : j = i
      · subst e; exact h1
      · exact h2 j (by omega) (by omega)
    · intro h
      exact ⟨h i (Nat.le_refl _) (by omega), fun j j1 j2 => h j (by omega) (by omega)⟩
theorem rising_iff {xs : List mIt} : q_isRising xs = true ↔ ∀ i j, i < j → j < xs.length → ¬ xk xs j < xk xs i := by
  unfold q_isRising
  rw [mall_all]
  constructor
  · intro h i j hij
    induction j with
    | zero => omega
    | succ j ih =>
      intro hj
      have h1 := h (j + 1) (by omega) (by omega)
      rw [decide_eq_true_iff, Nat.add_sub_cancel, Int32.lt_iff_toInt_lt] at h1
      by_cases e : i = j
      · subst e; rw [Int32.lt_iff_toInt_lt]; exact h1
      · have h2 := ih (by omega) (by omega)
        rw [Int32.lt_iff_toInt_lt] at h2 ⊢
        omega
  · intro h j j1 j2
    rw [decide_eq_true_iff]
    exact h (j - 1) j (by omega) (by omega)
theorem rising_part {xs : List mIt} {s e : Nat} (he : e ≤ xs.length) (hs : s ≤ e) (h : ∀ i j, s ≤ i → i < j → j < e → ¬ xk xs j < xk xs i) : Bk xs s e (span xs s e) := by
  rw [span_map he (e - s) s (by omega)]
  exact Bk.rising h
/-- two rising stretches woven: the whole in order -/
theorem weave_scat {xs : List mIt} {m : Nat} (hm : m ≤ xs.length) (h1 : ∀ i j, i < j → j < m → ¬ xk xs j < xk xs i) (h2 : ∀ i j, m ≤ i → i < j → j < xs.length → ¬ xk xs j < xk xs i) : chF xs (scat xs) xs.length = weave xs m :=
  rank_bk (Bk.merge (Nat.zero_le _) hm (rising_part hm (Nat.zero_le _) (fun i j _ => h1 i j)) (rising_part (Nat.le_refl _) hm h2))
