/-! ===== pairs of a row, counted ===== -/
/-- the pairs i < j of a row with c of their keys -/
def pr (c : Int32 → Int32 → Bool) : List mIt → Nat
  | [] => 0
  | a :: l => l.countP (fun b => c a.1 b.1) + pr c l
/-- the pairs across two rows -/
def cr (c : Int32 → Int32 → Bool) (as bs : List mIt) : Nat := (as.map (fun a => bs.countP (fun b => c a.1 b.1))).sum
theorem cr_nil {c : Int32 → Int32 → Bool} {bs : List mIt} : cr c [] bs = 0 := rfl
theorem cr_cons {c : Int32 → Int32 → Bool} {a : mIt} {as bs : List mIt} : cr c (a :: as) bs = bs.countP (fun b => c a.1 b.1) + cr c as bs := by
  unfold cr
  rw [List.map_cons, List.sum_cons]
theorem cr_app {c : Int32 → Int32 → Bool} {as as' bs : List mIt} : cr c (as ++ as') bs = cr c as bs + cr c as' bs := by
  unfold cr
  rw [List.map_append, List.sum_append]
theorem cr_appR {c : Int32 → Int32 → Bool} : ∀ {as bs bs' : List mIt}, cr c as (bs ++ bs') = cr c as bs + cr c as bs'
  | [], _, _ => rfl
  | a :: as, bs, bs' => by
    rw [cr_cons, cr_cons, cr_cons, List.countP_append, cr_appR]
    omega
theorem pr_app {c : Int32 → Int32 → Bool} : ∀ {as bs : List mIt}, pr c (as ++ bs) = pr c as + pr c bs + cr c as bs
  | [], bs => by
    rw [List.nil_append, cr_nil]
    show pr c bs = 0 + pr c bs + 0
    omega
  | a :: as, bs => by
    show (as ++ bs).countP _ + pr c (as ++ bs) = (as.countP _ + pr c as) + pr c bs + _
    rw [List.countP_append, pr_app, cr_cons]
    omega
theorem cr_permL {c : Int32 → Int32 → Bool} {as as' bs : List mIt} (h : as.Perm as') : cr c as bs = cr c as' bs := by
  induction h with
  | nil => rfl
  | cons a _ ih => rw [cr_cons, cr_cons, ih]
  | swap a b l => rw [cr_cons, cr_cons, cr_cons, cr_cons]; omega
  | trans _ _ i1 i2 => exact i1.trans i2
theorem cr_permR {c : Int32 → Int32 → Bool} {bs bs' : List mIt} (h : bs.Perm bs') : ∀ {as : List mIt}, cr c as bs = cr c as bs'
  | [] => rfl
  | a :: as => by rw [cr_cons, cr_cons, h.countP_eq, cr_permR h]
theorem pr_congr {c d : Int32 → Int32 → Bool} (h : ∀ x y, c x y = d x y) (l : List mIt) : pr c l = pr d l := by
  rw [show c = d from funext fun x => funext fun y => h x y]
theorem pr_perm {c : Int32 → Int32 → Bool} (hc : ∀ x y, c x y = c y x) {l l' : List mIt} (h : l.Perm l') : pr c l = pr c l' := by
  induction h with
  | nil => rfl
  | cons a h1 ih =>
    show List.countP _ _ + _ = List.countP _ _ + _
    rw [h1.countP_eq, ih]
  | swap a b l =>
    show List.countP _ (a :: l) + (List.countP _ l + pr c l) = List.countP _ (b :: l) + (List.countP _ l + pr c l)
    rw [List.countP_cons, List.countP_cons, hc a.1 b.1]
    omega
  | trans _ _ i1 i2 => exact i1.trans i2
theorem pr_le {c : Int32 → Int32 → Bool} : ∀ {l : List mIt}, pr c l ≤ l.length * l.length
  | [] => Nat.zero_le _
  | a :: l => by
    have h1 : l.countP (fun b => c a.1 b.1) ≤ l.length := List.countP_le_length
    have h2 := @pr_le c l
    show l.countP _ + pr c l ≤ (l.length + 1) * (l.length + 1)
    rw [Nat.add_mul, Nat.mul_add, Nat.one_mul, Nat.mul_one]
    omega
theorem drop_it {xs : List mIt} {s : Nat} (h : s < xs.length) : xs.drop s = it xs s :: xs.drop (s + 1) := by
  rw [List.drop_eq_getElem_cons h, xk_get h]
  rfl
theorem take_it {xs : List mIt} {s : Nat} (h : s < xs.length) : xs.take (s + 1) = xs.take s ++ [it xs s] := by
  rw [List.take_succ_eq_append_getElem h, xk_get h]
  rfl
theorem range_it {xs : List mIt} : ∀ (d s : Nat), s + d = xs.length → (List.range' s d).map (it xs) = xs.drop s := by
  intro d
  induction d with
  | zero => intro s h; rw [List.drop_eq_nil_of_le (by omega)]; rfl
  | succ d ih => intro s h; rw [List.range'_succ, List.map_cons, ih (s + 1) (by omega), drop_it (s := s) (by omega)]
theorem take_range {xs : List mIt} {s : Nat} (h : s ≤ xs.length) : (List.range' 0 s).map (it xs) = xs.take s := by
  rw [← span_map h s 0 (Nat.zero_add s)]
  unfold span
  rw [List.drop_zero]
theorem mlp_nI {c : Nat → Prop} {dc : ∀ j, Decidable (c j)} : ∀ (d s a : Nat), mlp (fun j (acc : Int32) => if c j then acc + 1 else acc) d s (nI a) = nI (a + (List.range' s d).countP (fun j => decide (c j))) := by
  intro d
  induction d with
  | zero => intro s a; rfl
  | succ d ih =>
    intro s a
    rw [List.range'_succ, List.countP_cons]
    show mlp _ d (s + 1) (if c s then nI a + 1 else nI a) = _
    by_cases h : c s
    · rw [if_pos h, if_pos (by simpa using h), nI_1, ih]
      exact congrArg nI (by omega)
    · rw [if_neg h, if_neg (by simpa using h), ih]
      exact congrArg nI (by omega)
theorem mlp_nI2 {c : Nat → Prop} {dc : ∀ j, Decidable (c j)} (d s a : Nat) : mlp (fun j (acc : Int32) => acc + (if c j then nI 1 else nI 0)) d s (nI a) = nI (a + (List.range' s d).countP (fun j => decide (c j))) := by
  rw [← mlp_nI]
  refine mlp_congr (fun j b _ _ => ?_)
  by_cases h : c j
  · rw [if_pos h, if_pos h]; rfl
  · rw [if_neg h, if_neg h]; exact Int32.add_zero b
/-- the reference's count -/
theorem pairs_pr {xs : List mIt} {how : Int32} : mq_pairs xs how = nI (pr (fun x y => decide (sideF x y = how)) xs) := by
  have h : ∀ (d s : Nat), s + d = xs.length → mlp (fun k acc => mlp (prS xs how k) (k - 0) 0 acc) d s (nI (pr (fun x y => decide (sideF x y = how)) (xs.take s))) = nI (pr (fun x y => decide (sideF x y = how)) xs) := by
    intro d
    induction d with
    | zero => intro s h; rw [List.take_of_length_le (by omega)]; rfl
    | succ d ih =>
      intro s h
      rw [← ih (s + 1) (by omega)]
      show mlp _ d (s + 1) (mlp (prS xs how s) (s - 0) 0 (nI _)) = _
      refine congrArg (mlp _ d (s + 1)) ?_
      refine (mlp_nI2 (c := fun o => sideF (xk xs o) (xk xs s) = how) (s - 0) 0 _).trans ?_
      rw [take_it (by omega), pr_app, Nat.sub_zero, ← take_range (show s ≤ xs.length by omega)]
      refine congrArg nI ?_
      have e1 : cr (fun x y => decide (sideF x y = how)) ((List.range' 0 s).map (it xs)) [it xs s] = (List.range' 0 s).countP (fun j => decide (sideF (xk xs j) (xk xs s) = how)) := by
        generalize List.range' 0 s = l
        induction l with
        | nil => rfl
        | cons a l ih2 =>
          rw [List.map_cons, cr_cons, ih2, List.countP_singleton, List.countP_cons]
          exact Nat.add_comm _ _
      rw [e1]
      show _ = _ + (0 + 0) + _
      omega
  have h0 := h xs.length 0 (Nat.zero_add _)
  rw [List.take_zero] at h0
  exact h0
/-- the class's count, each with those behind it -/
theorem loops_pr {xs : List mIt} {c : Int32 → Int32 → Prop} {dc : ∀ x y, Decidable (c x y)} : mlp (fun i acc => mlp (fun j (acc : Int32) => if c (xk xs i) (xk xs j) then acc + 1 else acc) (xs.length - (i + 1)) (i + 1) acc) (xs.length - 0) 0 (nI 0) = nI (pr (fun x y => decide (c x y)) xs) := by
  have h : ∀ (d s a : Nat), s + d = xs.length → mlp (fun i acc => mlp (fun j (acc : Int32) => if c (xk xs i) (xk xs j) then acc + 1 else acc) (xs.length - (i + 1)) (i + 1) acc) d s (nI a) = nI (a + pr (fun x y => decide (c x y)) (xs.drop s)) := by
    intro d
    induction d with
    | zero => intro s a h; rw [List.drop_eq_nil_of_le (by omega)]; rfl
    | succ d ih =>
      intro s a h
      show mlp _ d (s + 1) (mlp (fun j (acc : Int32) => if c (xk xs s) (xk xs j) then acc + 1 else acc) (xs.length - (s + 1)) (s + 1) (nI a)) = _
      rw [mlp_nI (c := fun j => c (xk xs s) (xk xs j)), ih (s + 1) _ (by omega), drop_it (s := s) (by omega)]
      refine congrArg nI ?_
      show _ = a + (List.countP _ (xs.drop (s + 1)) + pr _ (xs.drop (s + 1)))
      rw [← range_it (xs.length - (s + 1)) (s + 1) (by omega), List.countP_map]
      rw [range_it (xs.length - (s + 1)) (s + 1) (by omega)]
      exact Nat.add_assoc _ _ _
  have h0 := h (xs.length - 0) 0 0 (by omega)
  rw [h0, Nat.zero_add, List.drop_zero]
def cW (x y : Int32) : Bool := decide (y < x)
theorem wrong_pr {xs : List mIt} : mq_pairs xs (nI 1) = nI (pr cW xs) := by
  rw [pairs_pr, pr_congr (fun x y => show decide (sideF x y = nI 1) = cW x y from by unfold cW; exact decide_eq_decide.mpr side_1)]
theorem wrongQ_pr {xs : List mIt} : q_wrongPairs xs = nI (pr cW xs) := loops_pr (c := fun x y => y < x) (dc := fun _ _ => inferInstance)
theorem right_eq {xs : List mIt} : mq_pairs xs (-1) = q_rightPairs xs := by
  rw [pairs_pr]
  refine Eq.trans ?_ (loops_pr (xs := xs) (c := fun x y => x < y) (dc := fun _ _ => inferInstance)).symm
  exact congrArg nI (pr_congr (fun x y => decide_eq_decide.mpr side_m) xs)
theorem eqV_right {S : cS} {row : Int32} : vEq (sp_right S row) (mp_right S row) := dAt_v (by decide) (fun r _ => vEq.of (congrArg Value.int right_eq))
/-! what merging counts -/
def kSorted (l : List mIt) : Prop := l.Pairwise (fun a b => ¬ b.1 < a.1)
theorem kSorted.zero {l : List mIt} (h : kSorted l) : pr cW l = 0 := by
  induction l with
  | nil => rfl
  | cons a l ih =>
    obtain ⟨h1, h2⟩ := List.pairwise_cons.mp h
    show List.countP _ l + pr cW l = 0
    rw [ih h2, List.countP_eq_zero.mpr (fun b hb => by
      have := h1 b hb
      unfold cW
      simpa using this)]
theorem Bk.sorted {xs zs : List mIt} {s e : Nat} (h : Bk xs s e zs) : kSorted zs := by
  obtain ⟨B, rfl, hp, -⟩ := h
  unfold kSorted
  rw [List.pairwise_map]
  refine hp.imp (fun {a b} hab => ?_)
  rw [rl_iff] at hab
  show ¬ xk xs b < xk xs a
  rw [Int32.lt_iff_toInt_lt]
  omega
theorem winv_cr : ∀ {as bs : List mIt}, kSorted as → kSorted bs → winv as bs = nI (cr cW as bs)
  | [], bs, _, _ => by rw [show winv [] bs = 0 from by cases bs <;> simp [winv], cr_nil]; rfl
  | a :: as, [], _, _ => by
    rw [winv_nil]
    have : cr cW (a :: as) [] = 0 := by
      rw [cr_cons]
      show 0 + _ = 0
      have h : ∀ l : List mIt, cr cW l [] = 0 := fun l => by
        induction l with
        | nil => rfl
        | cons x l ih => rw [cr_cons, ih]; rfl
      rw [h as]
    rw [this]
    rfl
  | a :: as, b :: bs, ha, hb => by
    obtain ⟨a1, a2⟩ := List.pairwise_cons.mp ha
    obtain ⟨b1, b2⟩ := List.pairwise_cons.mp hb
    by_cases h : b.1 < a.1
    · rw [winv_r h, winv_cr ha b2, nI_add]
      refine congrArg nI ?_
      have e1 : cr cW (a :: as) (b :: bs) = cr cW (a :: as) [b] + cr cW (a :: as) bs := cr_appR (bs := [b])
      have e2 : ∀ l : List mIt, (∀ x ∈ l, b.1 < x.1) → cr cW l [b] = l.length := by
        intro l
        induction l with
        | nil => intro _; rfl
        | cons x l ih =>
          intro hx
          rw [cr_cons, ih (fun y hy => hx y (List.mem_cons_of_mem _ hy)), List.countP_singleton, if_pos (show cW x.1 b.1 = true from decide_eq_true (hx x List.mem_cons_self))]
          exact Nat.add_comm _ _
      rw [e1, e2 (a :: as) (fun x hx => by
        rcases List.mem_cons.mp hx with rfl | hx
        · exact h
        · have h3 := a1 x hx
          rw [Int32.lt_iff_toInt_lt] at h h3 ⊢
          omega)]
      rfl
    · rw [winv_l h, winv_cr a2 hb, cr_cons]
      refine congrArg nI ?_
      rw [List.countP_eq_zero.mpr (fun y hy => ?_), Nat.zero_add]
      have h4 : ¬ y.1 < a.1 := by
        rcases List.mem_cons.mp hy with rfl | hy
        · exact h
        · have h3 := b1 y hy
          rw [Int32.lt_iff_toInt_lt] at h h3 ⊢
          omega
      show ¬ cW a.1 y.1 = true
      unfold cW
      simpa using h4
theorem span_split {xs : List mIt} {s m e : Nat} (h1 : s ≤ m) (h2 : m ≤ e) (he : e ≤ xs.length) : span xs s e = span xs s m ++ span xs m e := by
  rw [span_map he (e - s) s (by omega), span_map (Nat.le_trans h2 he) (m - s) s (by omega), span_map he (e - m) m (by omega), ← List.map_append]
  refine congrArg (List.map (it xs)) ?_
  have h6 := List.range'_append_1 (s := s) (m := m - s) (n := e - m)
  rw [show s + (m - s) = m by omega, show m - s + (e - m) = e - s by omega] at h6
  exact h6.symm
theorem mpass_pr {ys : List mIt} {wd : Nat} (hw : 0 < wd) (hb : ∀ s, s < ys.length → wd ∣ s → kSorted (span ys s (min (s + wd) ys.length))) : ∀ (d s a : Nat) (p : List mIt × Int32), ys.length ≤ s + d → 2 * wd ∣ s → p.2 = nI a → ∃ a', (mpass ys wd d s p).2 = nI a' ∧ a' + pr cW (mpass ys wd d s p).1 = a + pr cW (p.1 ++ span ys (min s ys.length) ys.length) := by
  intro d
  induction d with
  | zero =>
    intro s a p h _ hp
    refine ⟨a, hp, ?_⟩
    rw [show min s ys.length = ys.length by omega]
    unfold span
    rw [List.drop_eq_nil_of_le (by rw [List.length_take]; omega), List.append_nil]
    rfl
  | succ d ih =>
    intro s a p h hd hp
    by_cases hs : s < ys.length
    · rw [mpass, if_pos hs]
      have d1 : wd ∣ s := Nat.dvd_trans ⟨2, Nat.mul_comm 2 wd⟩ hd
      have k1 := hb s hs d1
      have k2 : kSorted (span ys (min (s + wd) ys.length) (min (s + 2 * wd) ys.length)) := by
        by_cases e : s + wd < ys.length
        · have := hb (s + wd) e (Nat.dvd_add d1 (Nat.dvd_refl _))
          rw [Nat.min_eq_left (show s + wd ≤ ys.length by omega), show s + 2 * wd = s + wd + wd by omega]
          exact this
        · rw [Nat.min_eq_right (by omega), Nat.min_eq_right (by omega)]
          unfold span
          rw [List.drop_eq_nil_of_le (by rw [List.length_take]; omega)]
          exact List.Pairwise.nil
      have hwi := winv_cr k1 k2
      obtain ⟨a', r1, r2⟩ := ih (s + 2 * wd) (a + cr cW (span ys s (min (s + wd) ys.length)) (span ys (min (s + wd) ys.length) (min (s + 2 * wd) ys.length))) (p.1 ++ List.merge (span ys s (min (s + wd) ys.length)) (span ys (min (s + wd) ys.length) (min (s + 2 * wd) ys.length)) wle, p.2 + winv (span ys s (min (s + wd) ys.length)) (span ys (min (s + wd) ys.length) (min (s + 2 * wd) ys.length))) (by omega) (Nat.dvd_add hd (Nat.dvd_refl _)) (by rw [hp, hwi, nI_add])
      refine ⟨a', r1, r2.trans ?_⟩
      have e0 : span ys (min s ys.length) ys.length = span ys s (min (s + wd) ys.length) ++ (span ys (min (s + wd) ys.length) (min (s + 2 * wd) ys.length) ++ span ys (min (s + 2 * wd) ys.length) ys.length) := by
        rw [Nat.min_eq_left (Nat.le_of_lt hs), ← span_split (by omega) (by omega) (Nat.le_refl _), ← span_split (by omega) (by omega) (Nat.le_refl _)]
      rw [e0]
      generalize span ys s (min (s + wd) ys.length) = A at *
      generalize span ys (min (s + wd) ys.length) (min (s + 2 * wd) ys.length) = B at *
      generalize span ys (min (s + 2 * wd) ys.length) ys.length = T
      have pm : (List.merge A B wle).Perm (A ++ B) := List.merge_perm_append wle
      have sm : kSorted (List.merge A B wle) := by
        unfold kSorted at k1 k2 ⊢
        have t1 : ∀ a b c : mIt, wle a b = true → wle b c = true → wle a c = true := by
          intro a b c
          unfold wle
          rw [Bool.not_eq_true', Bool.not_eq_true', Bool.not_eq_true', decide_eq_false_iff_not, decide_eq_false_iff_not, decide_eq_false_iff_not, Int32.lt_iff_toInt_lt, Int32.lt_iff_toInt_lt, Int32.lt_iff_toInt_lt]
          omega
        have t2 : ∀ a b : mIt, (wle a b || wle b a) = true := by
          intro a b
          unfold wle
          rw [Bool.or_eq_true, Bool.not_eq_true', Bool.not_eq_true', decide_eq_false_iff_not, decide_eq_false_iff_not, Int32.lt_iff_toInt_lt, Int32.lt_iff_toInt_lt]
          omega
        have cv : ∀ a b : mIt, (¬ b.1 < a.1) ↔ wle a b = true := by
          intro a b
          unfold wle
          rw [Bool.not_eq_true', decide_eq_false_iff_not]
        exact (List.pairwise_merge t1 t2 A B (k1.imp (fun {a b} q => (cv a b).mp q)) (k2.imp (fun {a b} q => (cv a b).mp q))).imp (fun {a b} q => (cv a b).mpr q)
      dsimp only
      rw [pr_app, pr_app, pr_app, pr_app, pr_app, cr_app, cr_appR, cr_appR, cr_appR, sm.zero, k1.zero, k2.zero, cr_permL pm, cr_permR pm, cr_app, cr_appR]
      omega
    · rw [mpass, if_neg hs]
      refine ⟨a, hp, ?_⟩
      rw [show min s ys.length = ys.length by omega]
      unfold span
      rw [List.drop_eq_nil_of_le (by rw [List.length_take]; omega), List.append_nil]
theorem msrt_pr {xs : List mIt} : ∀ (d wd a : Nat) (p : List mIt × Int32), 0 < wd → xs.length ≤ wd + d → Blk xs wd p.1 → p.2 = nI a → (msrt d wd p).2 = nI (a + pr cW p.1) := by
  intro d
  induction d with
  | zero =>
    intro wd a p hw h hb hp
    show p.2 = _
    rw [(hb.all (by omega)).sorted.zero, hp, Nat.add_zero]
  | succ d ih =>
    intro wd a p hw h hb hp
    rw [msrt]
    by_cases q : wd < p.1.length
    · rw [if_pos q]
      obtain ⟨a', r1, r2⟩ := mpass_pr (ys := p.1) hw (fun s hs hd => by
        have := hb.2 s (by have := hb.1; omega) hd
        rw [← hb.1] at this
        exact this.sorted) p.1.length 0 0 ([], nI 0) (by omega) ⟨0, rfl⟩ rfl
      rw [Nat.zero_min, span_all, List.nil_append, Nat.zero_add] at r2
      refine (ih (wd * 2) (a + a') ((mround p.1 wd).1, p.2 + (mround p.1 wd).2) (by omega) (by omega) (hb.round hw) ?_).trans ?_
      · show p.2 + (mround p.1 wd).2 = _
        rw [hp, show (mround p.1 wd).2 = nI a' from r1, nI_add]
      · refine congrArg nI ?_
        rw [← r2]
        show a + a' + pr cW (mround p.1 wd).1 = a + (a' + pr cW (mround p.1 wd).1)
        omega
    · rw [if_neg q]
      show p.2 = _
      rw [(hb.all (by have := hb.1; omega)).sorted.zero, hp, Nat.add_zero]
theorem blk_1 {xs : List mIt} : Blk xs 1 xs := by
  refine ⟨rfl, fun s hs _ => ?_⟩
  rw [Nat.min_eq_left (by omega)]
  rw [span_map (by omega) 1 s rfl]
  exact ⟨[s], rfl, List.pairwise_singleton _ _, by rw [show s + 1 - s = 1 by omega]; exact List.Perm.refl _⟩
/-- what sorting tells: the pairs that stood wrong -/
theorem msort_wrong {xs : List mIt} : (msort xs).2 = mq_pairs xs (nI 1) := by
  rw [wrong_pr]
  refine (msrt_pr (xs := xs) xs.length 1 0 (xs, nI 0) (by decide) (by omega) blk_1 rfl).trans ?_
  rw [Nat.zero_add]
theorem inN_2 {x : Int32} : inN 2 x = if x = 0 then some 0 else if x = 1 then some 1 else none := by
  unfold inN
  by_cases h0 : x < 0
  · rw [if_pos (Or.inl h0), if_neg (fun z => by rw [z] at h0; exact absurd h0 (by decide)), if_neg (fun z => by rw [z] at h0; exact absurd h0 (by decide))]
  · obtain ⟨j, hj, rfl⟩ := nI_of h0
    by_cases h1 : j < 2
    · rw [if_neg (fun z => z.elim h0 (fun w => w (nI_lt h1 (by decide)))), nI_clamp hj]
      obtain rfl | rfl : j = 0 ∨ j = 1 := by omega
      · rfl
      · rfl
    · rw [if_pos (Or.inr (fun w => h1 ((nI_ltI hj (by decide)).mp w))), if_neg (fun z => h1 (by have := (mI_eq0 hj).mp z; omega)), if_neg (fun z => h1 (by have := (nI_eq hj (show 1 < 2 ^ 31 by decide)).mp z; omega))]
theorem eqV_wrong {S : cS} {row how : Int32} : vEq (sp_wrong S row how) (mp_wrong S row how) := dAt_v (by decide) (fun r _ => by
  by_cases h0 : how = 0
  · rw [if_pos h0]
    subst h0
    rw [show dArg S 2 (0 : Int32) (fun _ => (0, Value.int (mq_pairs (S.1 r) (nI 1)), S)) = (0, Value.int (mq_pairs (S.1 r) (nI 1)), S) from dArg_s (k := 2) (j := 0) (by decide) (by decide)]
    exact vEq.of (by rw [msort_wrong])
  · rw [if_neg h0]
    by_cases h1 : how = 1
    · rw [if_pos h1]
      subst h1
      rw [show dArg S 2 (1 : Int32) (fun _ => (0, Value.int (mq_pairs (S.1 r) (nI 1)), S)) = (0, Value.int (mq_pairs (S.1 r) (nI 1)), S) from dArg_s (k := 2) (j := 1) (by decide) (by decide)]
      exact vEq.of (by rw [wrongQ_pr, wrong_pr])
    · rw [if_neg h1, dArg_n (show inN 2 how = none by rw [inN_2, if_neg h0, if_neg h1])]
      exact vEq.rf)
theorem wronger_side {xs : List mIt} {p : Nat} : sideF (xk xs (p + 1)) (xk xs p) = q_wrongerByExchange xs p := by
  unfold sideF q_wrongerByExchange
  by_cases h1 : xk xs p = xk xs (p + 1)
  · rw [if_pos h1, if_neg (fun z => by rw [h1, Int32.lt_iff_toInt_lt] at z; omega), if_pos h1.symm]
  · rw [if_neg h1]
    by_cases h2 : xk xs p < xk xs (p + 1)
    · rw [if_pos h2, if_neg (fun z => by rw [Int32.lt_iff_toInt_lt] at z h2; omega), if_neg (fun z => h1 z.symm)]
    · rw [if_neg h2, if_pos (by rw [Int32.lt_iff_toInt_lt] at h2 ⊢; rw [← Int32.toInt_inj] at h1; omega)]
theorem eqV_after {S : cS} {row place : Int32} (hS : lenOk S) : vEq (sp_after S row place) (mp_after S row place) := dAt_v (by decide) (fun r hr => dAt_v (by have := hS.lt hr; omega) (fun p _ => vEq.of (by rw [msort_wrong, wronger_side])))
/-! two neighbours exchanged -/
theorem swp_split {xs : List mIt} {p : Nat} (hp : p + 1 < xs.length) : xs = xs.take p ++ (it xs p :: it xs (p + 1) :: xs.drop (p + 2)) ∧ swp xs p (p + 1) = xs.take p ++ (it xs (p + 1) :: it xs p :: xs.drop (p + 2)) := by
  have e1 : xs = xs.take p ++ (it xs p :: it xs (p + 1) :: xs.drop (p + 2)) := by
    rw [← drop_it hp, ← drop_it (by omega), List.take_append_drop]
  refine ⟨e1, ?_⟩
  have hl : (xs.take p).length = p := by rw [List.length_take]; omega
  refine xs_ext (by rw [swp_len, List.length_append, List.length_cons, List.length_cons, List.length_drop, hl]; omega) (fun i hi => ?_)
  rw [swp_len] at hi
  have hsw : it (swp xs p (p + 1)) i = if i = p + 1 then it xs p else if i = p then it xs (p + 1) else it xs i := by
    unfold it swp
    rw [xk_put (by rw [List.length_set]; exact hp), xt_put (by rw [List.length_set]; exact hp)]
    split
    · rfl
    · rw [xk_put (by omega), xt_put (by omega)]
      split
      · rfl
      · rfl
  rw [hsw]
  by_cases h1 : i < p
  · rw [if_neg (by omega), if_neg (by omega), it_app_lt (by omega)]
    conv => lhs; rw [e1]
    rw [it_app_lt (by omega)]
  · rw [it_app_ge (by omega), hl]
    by_cases h2 : i = p
    · subst h2
      rw [if_neg (by omega), if_pos rfl, Nat.sub_self]
      rfl
    · by_cases h3 : i = p + 1
      · subst h3
        rw [if_pos rfl, show p + 1 - p = 1 by omega]
        rfl
      · rw [if_neg h3, if_neg h2]
        conv => lhs; rw [e1]
        rw [it_app_ge (by omega), hl, show i - p = (i - p - 2) + 1 + 1 by omega]
        rfl
theorem exch_eq {xs : List mIt} {p : Nat} (hp : p + 1 < xs.length) : mq_pairs (swp xs p (p + 1)) (nI 1) - mq_pairs xs (nI 1) = q_wrongerByExchange xs p := by
  obtain ⟨e1, e2⟩ := swp_split hp
  rw [wrong_pr, wrong_pr, e2]
  have hx : pr cW xs = pr cW (xs.take p ++ (it xs p :: it xs (p + 1) :: xs.drop (p + 2))) := congrArg (pr cW) e1
  rw [hx]
  have hpm : cr cW (xs.take p) (it xs (p + 1) :: it xs p :: xs.drop (p + 2)) = cr cW (xs.take p) (it xs p :: it xs (p + 1) :: xs.drop (p + 2)) := cr_permR (List.Perm.swap _ _ _)
  rw [pr_app, pr_app, hpm]
  have f1 : pr cW (it xs (p + 1) :: it xs p :: xs.drop (p + 2)) = ((if cW (xk xs (p + 1)) (xk xs p) = true then 1 else 0) + (xs.drop (p + 2)).countP (fun b => cW (xk xs (p + 1)) b.1)) + ((xs.drop (p + 2)).countP (fun b => cW (xk xs p) b.1) + pr cW (xs.drop (p + 2))) := by
    show List.countP _ (it xs p :: xs.drop (p + 2)) + (_ + _) = _
    rw [List.countP_cons]
    show List.countP (fun b => cW (xk xs (p + 1)) b.1) (xs.drop (p + 2)) + (if cW (xk xs (p + 1)) (xk xs p) = true then 1 else 0) + (List.countP (fun b => cW (xk xs p) b.1) (xs.drop (p + 2)) + pr cW (xs.drop (p + 2))) = _
    omega
  have f2 : pr cW (it xs p :: it xs (p + 1) :: xs.drop (p + 2)) = ((if cW (xk xs p) (xk xs (p + 1)) = true then 1 else 0) + (xs.drop (p + 2)).countP (fun b => cW (xk xs p) b.1)) + ((xs.drop (p + 2)).countP (fun b => cW (xk xs (p + 1)) b.1) + pr cW (xs.drop (p + 2))) := by
    show List.countP _ (it xs (p + 1) :: xs.drop (p + 2)) + (_ + _) = _
    rw [List.countP_cons]
    show List.countP (fun b => cW (xk xs p) b.1) (xs.drop (p + 2)) + (if cW (xk xs p) (xk xs (p + 1)) = true then 1 else 0) + (List.countP (fun b => cW (xk xs (p + 1)) b.1) (xs.drop (p + 2)) + pr cW (xs.drop (p + 2))) = _
    omega
  rw [f1, f2]
  generalize (xs.drop (p + 2)).countP (fun b => cW (xk xs p) b.1) = u
  generalize (xs.drop (p + 2)).countP (fun b => cW (xk xs (p + 1)) b.1) = v
  generalize pr cW (xs.drop (p + 2)) = w
  generalize pr cW (xs.take p) = t
  generalize cr cW (xs.take p) (it xs p :: it xs (p + 1) :: xs.drop (p + 2)) = z
  unfold q_wrongerByExchange cW
  by_cases h1 : xk xs p = xk xs (p + 1)
  · rw [if_pos h1, if_neg (by simp only [decide_eq_true_eq]; rw [h1, Int32.lt_iff_toInt_lt]; omega), if_neg (by simp only [decide_eq_true_eq]; rw [h1, Int32.lt_iff_toInt_lt]; omega), show t + (0 + v + (u + w)) + z = t + (0 + u + (v + w)) + z by omega, Int32.sub_self]
    rfl
  · rw [if_neg h1]
    by_cases h2 : xk xs p < xk xs (p + 1)
    · rw [if_pos h2, if_pos (by simpa using h2), if_neg (by simp only [decide_eq_true_eq]; rw [Int32.lt_iff_toInt_lt] at h2 ⊢; omega), show t + (1 + v + (u + w)) + z = (t + (0 + u + (v + w)) + z) + 1 by omega, ← nI_1, Int32.add_comm, Int32.add_sub_cancel]
      rfl
    · have h3 : xk xs (p + 1) < xk xs p := by rw [Int32.lt_iff_toInt_lt] at h2 ⊢; rw [← Int32.toInt_inj] at h1; omega
      rw [if_neg h2, if_neg (by simpa using h2), if_pos (by simpa using h3), show t + (1 + u + (v + w)) + z = (t + (0 + v + (u + w)) + z) + 1 by omega]
      generalize t + (0 + v + (u + w)) + z = q
      rw [← nI_1, Int32.sub_eq_add_neg, Int32.neg_add, Int32.sub_eq_add_neg, ← Int32.add_assoc, Int32.add_right_neg, Int32.zero_add]
theorem eqV_exchange {S : cS} {row place : Int32} (hS : lenOk S) : vEq (sp_exchange S row place) (mp_exchange S row place) := dAt_v (by decide) (fun r hr => dAt_v (by have := hS.lt hr; omega) (fun p hp => vEq.of (congrArg Value.int (exch_eq (by omega)))))
/-! wrong pairs with one item -/
theorem mlp_app {α : Type} {f : Nat → α → α} : ∀ (d e s : Nat) (a : α), mlp f (d + e) s a = mlp f e (s + d) (mlp f d s a) := by
  intro d
  induction d with
  | zero => intro e s a; rw [Nat.zero_add]; rfl
  | succ d ih =>
    intro e s a
    rw [show d + 1 + e = (d + e) + 1 by omega]
    show mlp f (d + e) (s + 1) (f s a) = _
    rw [ih, show s + 1 + d = s + (d + 1) by omega]
    rfl
theorem wrongAt_eq {xs : List mIt} {p : Nat} (hp : p < xs.length) : mlp (wAt xs p) (xs.length - 0) 0 (nI 0) = q_wrongPairsWith xs p := by
  unfold q_wrongPairsWith
  rw [show xs.length - 0 = p + (1 + (xs.length - (p + 1))) by omega, mlp_app, mlp_app, Nat.zero_add]
  have h1 : mlp (wAt xs p) p 0 (nI 0) = mlp (fun j acc => if xk xs p < xk xs j then acc + 1 else acc) (p - 0) 0 (nI 0) := by
    rw [Nat.sub_zero]
    refine mlp_congr (fun j b _ h => ?_)
    unfold wAt
    by_cases e : xk xs p < xk xs j
    · rw [if_pos (Or.inl ⟨by omega, e⟩), if_pos e]; rfl
    · rw [if_neg (by rintro (⟨-, z⟩ | ⟨z, -⟩); exact e z; omega), if_neg e]; exact Int32.add_zero b
  have h2 : ∀ a : Int32, mlp (wAt xs p) 1 p a = a := fun a => by
    show wAt xs p p a = a
    unfold wAt
    rw [if_neg (by rintro (⟨z, -⟩ | ⟨z, -⟩) <;> omega)]
    exact Int32.add_zero a
  rw [h1, h2]
  refine mlp_congr (fun j b h _ => ?_)
  unfold wAt
  by_cases e : xk xs j < xk xs p
  · rw [if_pos (Or.inr ⟨by omega, e⟩), if_pos e]; rfl
  · rw [if_neg (by rintro (⟨z, -⟩ | ⟨-, z⟩); omega; exact e z), if_neg e]; exact Int32.add_zero b
theorem eqV_wrongAt {S : cS} {row place : Int32} (hS : lenOk S) : vEq (sp_wrongAt S row place) (mp_wrongAt S row place) := dAt_v (by decide) (fun r hr => dAt_v (by have := hS.lt hr; omega) (fun p hp => vEq.of (congrArg Value.int (wrongAt_eq hp))))
/-! falling throughout -/
theorem pr_zero {c : Int32 → Int32 → Bool} {xs : List mIt} : pr c xs = 0 ↔ xs.Pairwise (fun a b => c a.1 b.1 = false) := by
  induction xs with
  | nil => exact ⟨fun _ => List.Pairwise.nil, fun _ => rfl⟩
  | cons a l ih =>
    rw [List.pairwise_cons, ← ih]
    show List.countP _ l + pr c l = 0 ↔ _
    rw [Nat.add_eq_zero_iff, List.countP_eq_zero]
    constructor
    · rintro ⟨h1, h2⟩
      exact ⟨fun b hb => by have := h1 b hb; simpa using this, h2⟩
    · rintro ⟨h1, h2⟩
      exact ⟨fun b hb => by rw [h1 b hb]; decide, h2⟩
theorem pairwise_it {xs : List mIt} {R : mIt → mIt → Prop} : xs.Pairwise R ↔ ∀ i j, i < j → j < xs.length → R (it xs i) (it xs j) := by
  rw [List.pairwise_iff_getElem]
  constructor
  · intro h i j hij hj
    have := h i j (by omega) hj hij
    rw [xk_get (by omega), xk_get hj] at this
    exact this
  · intro h i j hi hj hij
    rw [xk_get hi, xk_get hj]
    exact h i j hij hj
theorem falls_iff {xs : List mIt} : q_fallsThroughout xs = true ↔ ∀ i j, i < j → j < xs.length → xk xs j < xk xs i := by
  unfold q_fallsThroughout
  rw [mall_all]
  constructor
  · intro h i j hij
    induction j with
    | zero => omega
    | succ j ih =>
      intro hj
      have h1 := h (j + 1) (by omega) (by omega)
      rw [decide_eq_true_iff, Nat.add_sub_cancel, Int32.lt_iff_toInt_lt] at h1
      by_cases e : i = j
      · subst e; rw [Int32.lt_iff_toInt_lt]; exact h1
      · have h2 := ih (by omega) (by omega)
        rw [Int32.lt_iff_toInt_lt] at h2 ⊢
        omega
  · intro h j j1 j2
    rw [decide_eq_true_iff]
    exact h (j - 1) j (by omega) (by omega)
theorem eqV_isFalling {S : cS} {row : Int32} (hS : lenOk S) : vEq (sp_isFalling S row) (mp_isFalling S row) := dAt_v (by decide) (fun r hr => vEq.of (mb_iff (by
  have hL := hS.le hr
  generalize S.1 r = xs at hL
  have hb : xs.length * xs.length ≤ 320 * 320 := Nat.mul_le_mul hL hL
  rw [decide_eq_true_iff, pairs_pr, pairs_pr, nI_add]
  have b1 := @pr_le (fun x y => decide (sideF x y = nI 0)) xs
  have b2 := @pr_le (fun x y => decide (sideF x y = -1)) xs
  rw [mI_eq0 (by omega), Nat.add_eq_zero_iff, pr_zero, pr_zero, pairwise_it, pairwise_it, falls_iff]
  constructor
  · rintro ⟨h1, h2⟩ i j hij hj
    have e1 := h1 i j hij hj
    have e2 := h2 i j hij hj
    rw [decide_eq_false_iff_not, side_0] at e1
    rw [decide_eq_false_iff_not, side_m] at e2
    show xk xs j < xk xs i
    have e3 : ¬ xk xs i = xk xs j := e1
    have e4 : ¬ xk xs i < xk xs j := e2
    rw [Int32.lt_iff_toInt_lt] at e4 ⊢
    rw [← Int32.toInt_inj] at e3
    omega
  · intro h
    refine ⟨fun i j hij hj => ?_, fun i j hij hj => ?_⟩
    · have e := h i j hij hj
      rw [decide_eq_false_iff_not, side_0]
      show ¬ xk xs i = xk xs j
      intro z
      rw [z, Int32.lt_iff_toInt_lt] at e
      omega
    · have e := h i j hij hj
      rw [decide_eq_false_iff_not, side_m]
      show ¬ xk xs i < xk xs j
      rw [Int32.lt_iff_toInt_lt] at e ⊢
      omega)))
