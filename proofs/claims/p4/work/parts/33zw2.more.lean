/-! ===== further answers alike ===== -/
def cT (x y : Int32) : Bool := decide (x = y)
theorem cr_one {c : Int32 → Int32 → Bool} {x : mIt} : ∀ {as : List mIt}, cr c as [x] = as.countP (fun a => c a.1 x.1)
  | [] => rfl
  | a :: as => by
    rw [cr_cons, cr_one, List.countP_singleton, List.countP_cons]
    omega
theorem pr_snoc {c : Int32 → Int32 → Bool} {l : List mIt} {x : mIt} : pr c (l ++ [x]) = pr c l + l.countP (fun a => c a.1 x.1) := by
  rw [pr_app, cr_one]
  show _ + (0 + 0) + _ = _
  omega
theorem msort_perm {xs : List mIt} : (msort xs).1.Perm xs := by
  obtain ⟨B, e, -, q⟩ := @msort_bk xs
  rw [e]
  have h := q.map (it xs)
  rw [Nat.sub_zero, take_range (Nat.le_refl _), List.take_length] at h
  exact h
theorem ties_go {ys : List mIt} (hs : kSorted ys) : ∀ (d s a b : Nat), 1 ≤ s → s + d = ys.length → a = pr cT (ys.take s) → b = (ys.take (s - 1)).countP (fun z => cT z.1 (xk ys (s - 1))) → (mlp (fun i (p : Int32 × Int32) => let al := if xk ys i = xk ys (i - 1) then p.2 + 1 else 0; (p.1 + al, al)) d s (nI a, nI b)).1 = nI (pr cT ys) := by
  intro d
  induction d with
  | zero =>
    intro s a b _ h ha _
    rw [ha, List.take_of_length_le (by omega)]
    rfl
  | succ d ih =>
    intro s a b h1 h ha hb
    obtain ⟨s, rfl⟩ : ∃ t, s = t + 1 := ⟨s - 1, by omega⟩
    rw [Nat.add_sub_cancel] at hb
    have ho := pairwise_it.mp hs
    have ht : ys.take (s + 1) = ys.take s ++ [it ys s] := take_it (by omega)
    have key : (if xk ys (s + 1) = xk ys s then nI b + 1 else 0) = nI ((ys.take (s + 1)).countP (fun z => cT z.1 (xk ys (s + 1)))) := by
      rw [ht, List.countP_append, List.countP_singleton]
      by_cases e : xk ys (s + 1) = xk ys s
      · rw [if_pos e, e, if_pos (show cT (it ys s).1 (xk ys s) = true from decide_eq_true rfl), ← hb, nI_1]
      · rw [if_neg e, if_neg (show ¬ cT (it ys s).1 (xk ys (s + 1)) = true from fun z => e (of_decide_eq_true z).symm), List.countP_eq_zero.mpr (fun z hz => ?_)]
        · rfl
        · obtain ⟨j, hj, rfl⟩ := List.getElem_of_mem hz
          rw [List.length_take] at hj
          rw [List.getElem_take, xk_get (by omega)]
          intro w
          have w2 : xk ys j = xk ys (s + 1) := of_decide_eq_true w
          have o1 : ¬ xk ys s < xk ys j := ho j s (by omega) (by omega)
          have o2 : ¬ xk ys (s + 1) < xk ys s := ho s (s + 1) (by omega) (by omega)
          rw [Int32.lt_iff_toInt_lt] at o1 o2
          rw [← Int32.toInt_inj] at e w2
          omega
    show (mlp _ d (s + 1 + 1) (nI a + (if xk ys (s + 1) = xk ys (s + 1 - 1) then nI b + 1 else 0), (if xk ys (s + 1) = xk ys (s + 1 - 1) then nI b + 1 else 0))).1 = _
    rw [Nat.add_sub_cancel, key, nI_add]
    refine ih (s + 1 + 1) _ _ (by omega) (by omega) ?_ (by rw [Nat.add_sub_cancel])
    rw [take_it (show s + 1 < ys.length by omega), pr_snoc, ← ha]
    rfl
theorem ties_sorted {ys : List mIt} (hs : kSorted ys) : q_tiedPairsOfSorted ys = nI (pr cT ys) := by
  unfold q_tiedPairsOfSorted
  rcases Nat.eq_zero_or_pos ys.length with e | e
  · rw [List.eq_nil_of_length_eq_zero e]
    rfl
  · refine ties_go hs (ys.length - 1) 1 0 0 (Nat.le_refl _) (by omega) ?_ ?_
    · rw [take_it e, List.take_zero]
      rfl
    · rfl
theorem cT_comm (x y : Int32) : cT x y = cT y x := decide_eq_decide.mpr ⟨Eq.symm, Eq.symm⟩
theorem ties_pr {xs : List mIt} : q_tiedPairsOfSorted (msort xs).1 = nI (pr cT xs) := by rw [ties_sorted msort_bk.sorted, pr_perm cT_comm msort_perm]
theorem ties_eq {xs : List mIt} : mq_pairs xs (nI 0) = q_tiedPairsOfSorted (msort xs).1 := by
  rw [ties_pr, pairs_pr]
  exact congrArg nI (pr_congr (fun x y => decide_eq_decide.mpr side_0) xs)
theorem eqV_ties {S : cS} {row : Int32} : vEq (sp_ties S row) (mp_ties S row) := dAt_v (by decide) (fun r _ => vEq.of (congrArg Value.int ties_eq))
/-! house -/
theorem house_go {S : cS} (hS : lenOk S) : ∀ (d s a : Nat) (b : Int32), s + d ≤ 4 → mlp (mhS S) d s (a, b) = (mlp (fun i acc => acc + (S.1 i).length) d s a, mlp (fun i acc => if q_isRising (S.1 i) = false then acc else acc + 1) d s b) := by
  intro d
  induction d with
  | zero => intro s a b _; rfl
  | succ d ih =>
    intro s a b h
    show mlp (mhS S) d (s + 1) (a + (S.1 s).length, b + (if mq_pairs (S.1 s) (nI 1) = 0 then nI 1 else nI 0)) = _
    rw [ih _ _ _ (by omega)]
    have e : b + (if mq_pairs (S.1 s) (nI 1) = 0 then nI 1 else nI 0) = if q_isRising (S.1 s) = false then b else b + 1 := by
      have w := wrong_0 (hS.le (show s < 4 by omega))
      cases q : q_isRising (S.1 s) with
      | true => rw [if_pos (w.mpr q), if_neg (by decide)]; rfl
      | false => rw [if_neg (fun z => by rw [w.mp z] at q; cases q), if_pos rfl]; exact Int32.add_zero b
    rw [e]
    rfl
theorem house_eq {S : cS} (hS : lenOk S) (w : Nat) : mq_house S w = q_house S w := by
  have h : mhF S = (q_itemsInAll S, q_sortedRows S) := house_go hS 4 0 0 (nI 0) (by omega)
  unfold mq_house q_house
  rw [h]
  rfl
theorem eqV_house {S : cS} {what : Int32} (hS : lenOk S) : ((mp_house S what).1 = (sp_house S what).1 / 2) ∧ ((sp_house S what).1 = 0 → (mp_house S what).2.1 = (sp_house S what).2.1) := by
  rcases q : inN 6 what with _ | w
  · rw [mp_house_n q, show sp_house S what = (2, .null, S) from by unfold sp_house; rw [q]]
    exact ⟨show (1 : Nat) = 2 / 2 by decide, fun z => by cases z⟩
  · obtain ⟨hw, rfl⟩ := inN_of q (by decide)
    rw [mp_house_s hw, house_s hw, house_eq hS]
    exact ⟨show (0 : Nat) = 0 / 2 by decide, fun _ => rfl⟩
/-! first -/
theorem nI_nm1 {k : Nat} (h : k < 2 ^ 31) : nI k ≠ -1 := fun z => by
  have h1 := nI_toInt h
  rw [z] at h1
  have h2 : (-1 : Int32).toInt = -1 := by decide
  omega
theorem first_go {xs : List mIt} {key : Int32} (hL : xs.length < 2 ^ 30) : ∀ (d s : Nat), s + d = xs.length → (∀ its : Int32, its ≠ -1 → mlp (fsS xs key false) d s its = its) ∧ mlp (fsS xs key false) d s (-1) = mff (fun i => decide (xk xs i = key)) d s := by
  intro d
  induction d with
  | zero => intro s _; exact ⟨fun _ _ => rfl, rfl⟩
  | succ d ih =>
    intro s h
    obtain ⟨i1, i2⟩ := ih (s + 1) (by omega)
    refine ⟨fun its hi => ?_, ?_⟩
    · show mlp _ d (s + 1) (fsS xs key false s its) = its
      unfold fsS
      rw [if_neg (by rintro ⟨-, z | z⟩; cases z; exact hi z)]
      exact i1 its hi
    · show mlp _ d (s + 1) (fsS xs key false s (-1)) = (if decide (xk xs s = key) = true then nI s else mff _ d (s + 1))
      unfold fsS
      by_cases e : xk xs s = key
      · rw [if_pos ⟨e, Or.inr rfl⟩, if_pos (decide_eq_true e)]
        exact i1 _ (nI_nm1 (by omega))
      · rw [if_neg (fun z => e z.1), if_neg (by simpa using e)]
        exact i2
theorem last_go {xs : List mIt} {key : Int32} : ∀ d : Nat, mlp (fsS xs key true) d 0 (-1) = mfl (fun i => decide (xk xs i = key)) d := by
  intro d
  induction d with
  | zero => rfl
  | succ d ih =>
    rw [mlp_app d 1 0, Nat.zero_add, ih]
    show fsS xs key true d _ = (if decide (xk xs d = key) = true then nI d else mfl _ d)
    unfold fsS
    by_cases e : xk xs d = key
    · rw [if_pos ⟨e, Or.inl rfl⟩, if_pos (decide_eq_true e)]
    · rw [if_neg (fun z => e z.1), if_neg (by simpa using e)]
theorem eqV_first {S : cS} {row key : Int32} {isLast : Bool} (hS : lenOk S) : vEq (sp_first S row key isLast) (mp_first S row key isLast) := dAt_v (by decide) (fun r hr => dFit_v (vEq.of (congrArg Value.int (by
  cases isLast with
  | true => rw [if_neg (by decide), Nat.sub_zero]; exact last_go _
  | false => rw [if_pos rfl]; exact (first_go (hS.lt hr) _ 0 (by omega)).2))))
/-! runs -/
def desc (xs : List mIt) (j : Nat) : Prop := xk xs j < xk xs (j - 1)
theorem erun_spec {xs : List mIt} : ∀ (d e : Nat), (∀ j, e ≤ j → j < erun xs d e → ¬ desc xs j) ∧ (erun xs d e < e + d → desc xs (erun xs d e)) := by
  intro d
  induction d with
  | zero => intro e; exact ⟨fun j h1 h2 => absurd h2 (by show ¬ j < e; omega), fun h => absurd h (by show ¬ e < e + 0; omega)⟩
  | succ d ih =>
    intro e
    by_cases h : xk xs e < xk xs (e - 1)
    · have e1 : erun xs (d + 1) e = e := if_pos h
      rw [e1]
      exact ⟨fun j h1 h2 => absurd h2 (by omega), fun _ => h⟩
    · have e1 : erun xs (d + 1) e = erun xs d (e + 1) := if_neg h
      rw [e1]
      obtain ⟨i1, i2⟩ := ih (e + 1)
      refine ⟨fun j h1 h2 => ?_, fun z => i2 (by omega)⟩
      by_cases f : j = e
      · rw [f]; exact h
      · exact i1 j (by omega) h2
theorem eor {xs : List mIt} {i : Nat} (hi : i < xs.length) : i + 1 ≤ q_endOfRun xs i ∧ q_endOfRun xs i ≤ xs.length ∧ (∀ j, i < j → j < q_endOfRun xs i → ¬ desc xs j) ∧ (q_endOfRun xs i < xs.length → desc xs (q_endOfRun xs i)) := by
  have h1 := @erun_le xs (xs.length - (i + 1)) (i + 1)
  obtain ⟨h2, h3⟩ := @erun_spec xs (xs.length - (i + 1)) (i + 1)
  unfold q_endOfRun
  exact ⟨h1.1, by omega, fun j j1 j2 => h2 j (by omega) j2, fun z => h3 (by omega)⟩
theorem eor_in {xs : List mIt} {k j : Nat} (hk : k < xs.length) (h1 : k ≤ j) (h2 : j < q_endOfRun xs k) : q_endOfRun xs j = q_endOfRun xs k := by
  obtain ⟨a1, a2, a3, a4⟩ := eor hk
  obtain ⟨b1, b2, b3, b4⟩ := eor (show j < xs.length by omega)
  rcases Nat.lt_trichotomy (q_endOfRun xs j) (q_endOfRun xs k) with h | h | h
  · exact absurd (b4 (by omega)) (a3 _ (by omega) h)
  · exact h
  · exact absurd (a4 (by omega)) (b3 _ h2 h)
theorem runs_go {xs : List mIt} : ∀ (d k : Nat) (acc : Int32), xs.length ≤ k + d → k ≤ xs.length → (k = 0 ∨ k = xs.length ∨ desc xs k) → mruns xs d k acc = mlp (fun i acc => if i = 0 ∨ xk xs i < xk xs (i - 1) then acc + 1 else acc) (xs.length - k) k acc := by
  intro d
  induction d with
  | zero =>
    intro k acc h hk _
    rw [show xs.length - k = 0 by omega]
    rfl
  | succ d ih =>
    intro k acc h hk hd
    by_cases q : k < xs.length
    · obtain ⟨a1, a2, a3, a4⟩ := eor q
      show (if k < xs.length then mruns xs d (q_endOfRun xs k) (acc + 1) else acc) = _
      rw [if_pos q, ih (q_endOfRun xs k) (acc + 1) (by omega) a2 (by
        by_cases z : q_endOfRun xs k < xs.length
        · exact Or.inr (Or.inr (a4 z))
        · exact Or.inr (Or.inl (by omega)))]
      rw [show xs.length - k = 1 + ((q_endOfRun xs k - (k + 1)) + (xs.length - q_endOfRun xs k)) by omega, mlp_app, mlp_app, show k + 1 + (q_endOfRun xs k - (k + 1)) = q_endOfRun xs k by omega]
      have e1 : mlp (fun i (acc : Int32) => if i = 0 ∨ xk xs i < xk xs (i - 1) then acc + 1 else acc) 1 k acc = acc + 1 := if_pos (by
        rcases hd with z | z | z
        · exact Or.inl z
        · omega
        · exact Or.inr z)
      have e2 : ∀ (m s : Nat) (b : Int32), k < s → s + m ≤ q_endOfRun xs k → mlp (fun i (acc : Int32) => if i = 0 ∨ xk xs i < xk xs (i - 1) then acc + 1 else acc) m s b = b := by
        intro m
        induction m with
        | zero => intro s b _ _; rfl
        | succ m ih2 =>
          intro s b h1 h2
          show mlp _ m (s + 1) (if s = 0 ∨ xk xs s < xk xs (s - 1) then b + 1 else b) = b
          rw [if_neg (by
            rintro (z | z)
            · omega
            · exact a3 s h1 (by omega) z)]
          exact ih2 (s + 1) b (by omega) (by omega)
      rw [e1, e2 _ _ _ (Nat.lt_succ_self k) (by omega)]
    · show (if k < xs.length then mruns xs d (q_endOfRun xs k) (acc + 1) else acc) = _
      rw [if_neg q, show xs.length - k = 0 by omega]
      rfl
theorem runs_eq {xs : List mIt} : mruns xs xs.length 0 (nI 0) = q_runsInAll xs := by
  rw [runs_go xs.length 0 (nI 0) (by omega) (Nat.zero_le _) (Or.inl rfl)]
  rfl
theorem eqV_runs {S : cS} {row : Int32} : vEq (sp_runs S row) (mp_runs S row) := dAt_v (by decide) (fun r _ => vEq.of (congrArg Value.int runs_eq))
/-! the longest run -/
def lgR (xs : List mIt) (i : Nat) (p : Int32 × Int32) : Int32 × Int32 := let run := if 0 < i ∧ xk xs i < xk xs (i - 1) then 1 else p.2 + 1; (if p.1 < run then run else p.1, run)
theorem lgR_s {xs : List mIt} {i b m u : Nat} (hm : m < 2 ^ 30) (hu : u < 2 ^ 30) (hr : u = if 0 < i ∧ xk xs i < xk xs (i - 1) then 1 else b + 1) : lgR xs i (nI m, nI b) = (nI (max m u), nI u) := by
  have e : (if 0 < i ∧ xk xs i < xk xs (i - 1) then (1 : Int32) else nI b + 1) = nI u := by
    rw [hr]
    split
    · rfl
    · exact nI_1 b
  unfold lgR
  dsimp only
  rw [e]
  by_cases h : m < u
  · rw [if_pos (nI_lt h (by omega)), Nat.max_eq_right (by omega)]
  · rw [if_neg (nI_nlt (by omega) (by omega)), Nat.max_eq_left (by omega)]
theorem longest_go {xs : List mIt} (hL : xs.length < 2 ^ 29) : ∀ (N k m b : Nat), xs.length - k < N → k ≤ xs.length → m ≤ xs.length → b ≤ xs.length → ((k = 0 ∧ b = 0) ∨ k = xs.length ∨ (0 < k ∧ desc xs k)) → (mlp (lgR xs) (xs.length - k) k (nI m, nI b)).1 = nI (mlp (lgS xs) (xs.length - k) k m) := by
  intro N
  induction N with
  | zero => intro k m b h; exact absurd h (Nat.not_lt_zero _)
  | succ N ih =>
    intro k m b hN hk hm hb hd
    by_cases q : k < xs.length
    · obtain ⟨a1, a2, a3, a4⟩ := eor q
      have f1 : ∀ (t u m9 : Nat), u = t + 1 → k + u ≤ q_endOfRun xs k → m9 ≤ xs.length → mlp (lgR xs) (u) k (nI m9, nI b) = (nI (max m9 u), nI u) := by
        intro t
        induction t with
        | zero =>
          intro u m9 hu h2 hm9
          subst hu
          show lgR xs k (nI m9, nI b) = _
          refine lgR_s (by omega) (by omega) ?_
          rcases hd with ⟨z1, z2⟩ | z | ⟨z1, z2⟩
          · rw [if_neg (by omega), z2]
          · omega
          · rw [if_pos ⟨z1, z2⟩]
        | succ t ih2 =>
          intro u m9 hu h2 hm9
          subst hu
          rw [mlp_app (t + 1) 1 k, ih2 (t + 1) m9 rfl (by omega) hm9]
          show lgR xs (k + (t + 1)) (nI (max m9 (t + 1)), nI (t + 1)) = _
          rw [lgR_s (u := t + 1 + 1) (by omega) (by omega) (by rw [if_neg (fun z => a3 _ (by omega) (by omega) z.2)])]
          rw [show max (max m9 (t + 1)) (t + 1 + 1) = max m9 (t + 1 + 1) by omega]
      have f2 : ∀ (t m9 : Nat), t < q_endOfRun xs k - k → mlp (lgS xs) (t + 1) k m9 = max m9 (q_endOfRun xs k - k) := by
        intro t
        induction t with
        | zero => intro m9 _; rfl
        | succ t ih2 =>
          intro m9 ht
          rw [mlp_app (t + 1) 1 k, ih2 m9 (by omega)]
          show max (max m9 (q_endOfRun xs k - k)) (q_endOfRun xs (k + (t + 1)) - (k + (t + 1))) = _
          rw [eor_in (j := k + (t + 1)) q (by omega) (by omega)]
          omega
      have hw : xs.length - k = (q_endOfRun xs k - k) + (xs.length - q_endOfRun xs k) := by omega
      rw [hw, mlp_app, mlp_app, show k + (q_endOfRun xs k - k) = q_endOfRun xs k by omega]
      rw [f1 (q_endOfRun xs k - k - 1) (q_endOfRun xs k - k) m (by omega) (by omega) hm]
      have g2 := f2 (q_endOfRun xs k - k - 1) m (by omega)
      rw [show q_endOfRun xs k - k - 1 + 1 = q_endOfRun xs k - k by omega] at g2
      rw [g2]
      refine ih (q_endOfRun xs k) _ _ (by omega) a2 (by omega) (by omega) ?_
      by_cases z : q_endOfRun xs k < xs.length
      · exact Or.inr (Or.inr ⟨by omega, a4 z⟩)
      · exact Or.inr (Or.inl (by omega))
    · rw [show xs.length - k = 0 by omega]
      rfl
theorem longest_eq {xs : List mIt} (hL : xs.length ≤ 320) : nI (mlp (lgS xs) (xs.length - 0) 0 0) = q_longestRun xs :=
  (longest_go (by omega) (xs.length - 0 + 1) 0 0 0 (Nat.lt_succ_self _) (Nat.zero_le _) (Nat.zero_le _) (Nat.zero_le _) (Or.inl ⟨rfl, rfl⟩)).symm
theorem eqV_longest {S : cS} {row : Int32} (hS : lenOk S) : vEq (sp_longest S row) (mp_longest S row) := dAt_v (by decide) (fun r hr => vEq.of (congrArg Value.int (longest_eq (hS.le hr))))
/-! how sound -/
theorem ranks_ok {xs : List mIt} : q_standsByRanksIn xs (msort xs).1 = true := by
  unfold q_standsByRanksIn
  rw [mall_all]
  intro i _ hi
  obtain ⟨P, e, hp, hq⟩ := @msort_bk xs
  rw [Nat.sub_zero] at hq
  have hl : P.length = xs.length := by rw [hq.length_eq, List.length_range']
  have hk : i ∈ P := hq.mem_iff.mpr (List.mem_range'_1.mpr ⟨Nat.zero_le _, by omega⟩)
  obtain ⟨j, hj, rfl⟩ := List.getElem_of_mem hk
  rw [decide_eq_true_iff, rank_at hp hq hj, msort_len]
  have h9 : it (msort xs).1 j = it xs P[j] := by
    have h8 : (msort xs).1[j]'(by rw [msort_len]; omega) = it xs P[j] := by simp only [e, List.getElem_map]
    rw [← h8, xk_get]
    rfl
  exact ⟨by omega, congrArg Prod.fst h9, congrArg Prod.snd h9⟩
theorem pr_tri {xs : List mIt} : 2 * (pr cW xs + pr (fun x y => decide (x < y)) xs + pr cT xs) = xs.length * (xs.length - 1) := by
  induction xs with
  | nil => rfl
  | cons a l ih =>
    have h : l.countP (fun b => cW a.1 b.1) + l.countP (fun b => decide (a.1 < b.1)) + l.countP (fun b => cT a.1 b.1) = l.length := by
      clear ih
      induction l with
      | nil => rfl
      | cons b l ih2 =>
        rw [List.countP_cons, List.countP_cons, List.countP_cons, List.length_cons]
        have h1 : (if cW a.1 b.1 = true then 1 else 0) + (if decide (a.1 < b.1) = true then 1 else 0) + (if cT a.1 b.1 = true then 1 else 0) = 1 := by
          unfold cW cT
          simp only [decide_eq_true_eq, Int32.lt_iff_toInt_lt, ← Int32.toInt_inj]
          rcases Int.lt_trichotomy a.1.toInt b.1.toInt with z | z | z
          · rw [if_neg (by omega), if_pos z, if_neg (by omega)]
          · rw [if_neg (by omega), if_neg (by omega), if_pos z]
          · rw [if_pos z, if_neg (by omega), if_neg (by omega)]
        omega
    show 2 * ((l.countP (fun b => cW a.1 b.1) + pr cW l) + (l.countP (fun b => decide (a.1 < b.1)) + pr _ l) + (l.countP (fun b => cT a.1 b.1) + pr cT l)) = (l.length + 1) * (l.length + 1 - 1)
    rw [Nat.add_sub_cancel, Nat.add_mul, Nat.one_mul]
    have h2 : l.length * (l.length - 1) + l.length = l.length * l.length := by
      rcases l.length with _ | n
      · rfl
      · rw [Nat.add_sub_cancel, Nat.mul_succ]
    omega
theorem right_pr {xs : List mIt} : q_rightPairs xs = nI (pr (fun x y => decide (x < y)) xs) := loops_pr (c := fun x y => x < y) (dc := fun _ _ => inferInstance)
theorem row_sound {xs : List mIt} (hL : xs.length ≤ 320) : q_rowSound xs = true := by
  unfold q_rowSound
  rw [Bool.and_eq_true, Bool.and_eq_true, Bool.and_eq_true]
  refine ⟨⟨⟨?_, ?_⟩, ?_⟩, ranks_ok⟩
  · rw [decide_eq_true_iff, msort_wrong, wrong_pr, wrongQ_pr]
  · rw [beq_iff_eq, msort_wrong]
    rw [Bool.eq_iff_iff, decide_eq_true_iff]
    exact wrong_0 hL
  · rw [decide_eq_true_iff, msort_wrong, wrong_pr, right_pr, ties_pr, nI_add, nI_add]
    have h := @pr_tri xs
    have hb : xs.length * (xs.length - 1) ≤ 320 * 320 := Nat.mul_le_mul hL (by omega)
    rcases Nat.eq_zero_or_pos xs.length with e | e
    · rw [List.eq_nil_of_length_eq_zero e]
      decide
    · obtain ⟨n, hn⟩ : ∃ n, xs.length = n + 1 := ⟨xs.length - 1, by omega⟩
      rw [hn, nI_pred, mI_mul, pk_div (by rw [hn, Nat.add_sub_cancel] at hb; omega) (by decide) (by decide)]
      refine congrArg nI ?_
      rw [hn, Nat.add_sub_cancel] at h
      omega
theorem other_self {xs : List mIt} : q_otherItems xs xs = 0 := by
  unfold q_otherItems
  have h : ∀ (d s : Nat), mlp (fun i (acc : Int32) => if xk xs i = xk xs i ∧ xt xs i = xt xs i then acc else acc + 1) d s (nI 0) = nI 0 := by
    intro d
    induction d with
    | zero => intro s; rfl
    | succ d ih => intro s; show mlp _ d (s + 1) (if _ then _ else _) = _; rw [if_pos ⟨rfl, rfl⟩]; exact ih _
  exact h _ _
theorem weave_sound {xs ys : List mIt} {room : Nat} : q_weaveSound xs ys room = true := by
  unfold q_weaveSound
  cases h1 : q_isRising xs with
  | false => rfl
  | true =>
    cases h2 : q_isRising ys with
    | false => rfl
    | true =>
      have r1 := rising_iff.mp h1
      have r2 := rising_iff.mp h2
      have w := weave_scat (xs := xs ++ ys) (m := xs.length) (by rw [List.length_append]; omega) (fun i j hij hj => by
        rw [xk_app_lt hj, xk_app_lt (show i < xs.length by omega)]
        exact r1 i j hij hj) (fun i j hi hij hj => by
        rw [List.length_append] at hj
        rw [show xk (xs ++ ys) j = xk ys (j - xs.length) from congrArg Prod.fst (it_app_ge (by omega)), show xk (xs ++ ys) i = xk ys (i - xs.length) from congrArg Prod.fst (it_app_ge hi)]
        exact r2 _ _ (by omega) (by omega))
      rw [msort_scat] at w
      rw [span_all, ← w, other_self, decide_eq_true rfl, decide_eq_true rfl, Bool.and_self, Bool.or_true]
theorem sound_eq {h : mH} {S : cS} (C : cAt h S) : q_sound S = true := by
  have hS : lenOk S := fun r hr => (C.2.2.2.1 r hr).len.1
  unfold q_sound
  rw [Bool.and_eq_true, mall_all]
  exact ⟨fun j _ hj => row_sound (hS.le (by omega)), weave_sound⟩
