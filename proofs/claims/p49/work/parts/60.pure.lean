/-! ===== what is needed of the pure rows ===== -/
theorem rroom_le {r : Nat} : rroom r ≤ 320 := by unfold rroom; split <;> omega
/-- a row out of two functions -/
def zipF (f g : Nat → Int32) (n : Nat) : List mIt := (List.range n).map (fun i => (f i, g i))
theorem zipF_len {f g : Nat → Int32} {n : Nat} : (zipF f g n).length = n := by unfold zipF; rw [List.length_map, List.length_range]
theorem xk_zip {f g : Nat → Int32} {n i : Nat} (h : i < n) : xk (zipF f g n) i = f i := by
  unfold xk zipF
  rw [List.getD_eq_getElem?_getD, List.getElem?_map, List.getElem?_range h]
  rfl
theorem xt_zip {f g : Nat → Int32} {n i : Nat} (h : i < n) : xt (zipF f g n) i = g i := by
  unfold xt zipF
  rw [List.getD_eq_getElem?_getD, List.getElem?_map, List.getElem?_range h]
  rfl
def aAt (h : mH) (n a len : Nat) (f : Nat → Int32) : Prop := (28 < a ∧ a ≠ 33 ∧ a ≠ 38 ∧ a < n) ∧ ∃ g : Nat → Int32, h a = .inl (0, len, g) ∧ ∀ i, i < len → g i = f i
theorem aAt.fr {h h' : mH} {n n' a len : Nat} {f : Nat → Int32} (H : aAt h n a len f) (hn : n ≤ n') (he : h' a = h a) : aAt h' n' a len f := by
  obtain ⟨⟨a1, a2, a3, a4⟩, g, e, hg⟩ := H
  exact ⟨⟨a1, a2, a3, by omega⟩, g, he.trans e, hg⟩
def mObj (S : cS) (th : Int32) : mE := .inr (.inr (6, [.ref 28, .ref 33, .int S.2.1, .int S.2.2.1, .int S.2.2.2.1, .int S.2.2.2.2, .int th]))
def mRows (h : mH) (n : Nat) (S : cS) (kx sx : Nat → Nat) : Prop := (∃ g : Nat → Option Nat, h 28 = .inr (.inl (3, 4, g)) ∧ ∀ r, r < 4 → g r = some (kx r)) ∧ (∃ g : Nat → Option Nat, h 33 = .inr (.inl (3, 4, g)) ∧ ∀ r, r < 4 → g r = some (sx r)) ∧ (∀ r, r < 4 → aAt h n (kx r) (S.1 r).length (xk (S.1 r))) ∧ (∀ r, r < 4 → aAt h n (sx r) (S.1 r).length (xt (S.1 r))) ∧ (∀ r q, r < 4 → q < 4 → kx r ≠ sx q) ∧ (∀ r q, r < 4 → q < 4 → r ≠ q → kx r ≠ kx q ∧ sx r ≠ sx q) ∧ (∀ r, r < 4 → (S.1 r).length ≤ rroom r)
/-- the reference's object with its cells: 27, 28, 33 and eight arrays somewhere behind -/
def mAt (h : mH) (n : Nat) (S : cS) (th : Int32) : Prop := h 27 = mObj S th ∧ 39 ≤ n ∧ ∃ kx sx, mRows h n S kx sx
theorem mRows.fr {h h' : mH} {n n' : Nat} {S : cS} {kx sx : Nat → Nat} (H : mRows h n S kx sx) (hn : n ≤ n') (hf : ∀ j, 28 ≤ j → j ≠ 38 → j < n → h' j = h j) (h39 : 39 ≤ n) : mRows h' n' S kx sx := by
  obtain ⟨⟨g1, a1, a2⟩, ⟨g2, b1, b2⟩, c1, c2, c3, c4, c5⟩ := H
  refine ⟨⟨g1, (hf 28 (by omega) (by omega) (by omega)).trans a1, a2⟩, ⟨g2, (hf 33 (by omega) (by omega) (by omega)).trans b1, b2⟩, fun r hr => ?_, fun r hr => ?_, c3, c4, c5⟩
  · have z := (c1 r hr).1; exact (c1 r hr).fr hn (hf _ (by omega) (by omega) (by omega))
  · have z := (c2 r hr).1; exact (c2 r hr).fr hn (hf _ (by omega) (by omega) (by omega))
/-- what a call of the reference ends with: thrown tells the kind; cells below 27, and 38, are as they were -/
def mOk (o : Nat × Value × cS) (d : Value) (h : mH) (n : Nat) : Option Value → mH → Nat → Prop := fun v h' n' => v = some (if o.1 = 0 then o.2.1 else d) ∧ n ≤ n' ∧ mAt h' n' o.2.2 (nI o.1) ∧ ∀ j, (j < 27 ∨ j = 38) → h' j = h j
theorem mOk.of {o : Nat × Value × cS} {d : Value} {h h' : mH} {n n' : Nat} {x : Value} {S' : cS} {v : Option Value} {kx sx : Nat → Nat} (ho : o = (0, x, S')) (hv : v = some x) (hn : n ≤ n') (hc : h' 27 = mObj S' (nI 0)) (h39 : 39 ≤ n') (hR : mRows h' n' S' kx sx) (hf : ∀ j, (j < 27 ∨ j = 38) → h' j = h j) : mOk o d h n v h' n' := by
  subst ho
  exact ⟨hv, hn, ⟨hc, h39, kx, sx, hR⟩, hf⟩
def sideF (x y : Int32) : Int32 := if x < y then -1 else if x = y then nI 0 else nI 1
def prS (xs : List mIt) (how : Int32) (k o : Nat) (acc : Int32) : Int32 := acc + (if sideF (xk xs o) (xk xs k) = how then nI 1 else nI 0)
def mq_pairs (xs : List mIt) (how : Int32) : Int32 := mlp (fun k acc => mlp (prS xs how k) (k - 0) 0 acc) (xs.length - 0) 0 (nI 0)
def scS (xs : List mIt) (k : Nat) (p : Nat → Nat) : Nat → Nat := fun i => if i = rankf xs k then k else p i
/-- at each place the place of the item that stands there in the sorted row -/
def scat (xs : List mIt) : Nat → Nat := mlp (scS xs) (xs.length - 0) 0 (fun _ => 0)
def chF (xs : List mIt) (pl : Nat → Nat) (n : Nat) : List mIt := zipF (fun k => xk xs (pl k)) (fun k => xt xs (pl k)) n
theorem swp_len {xs : List mIt} {i j : Nat} : (swp xs i j).length = xs.length := by unfold swp; rw [List.length_set, List.length_set]
def lgS (xs : List mIt) (k m : Nat) : Nat := max m (q_endOfRun xs k - k)
/-- .. of a question: of what was there, the object alone has changed -/
def mOkq (o : Nat × Value × cS) (d : Value) (h : mH) (n : Nat) : Option Value → mH → Nat → Prop := fun v h' n' => v = some (if o.1 = 0 then o.2.1 else d) ∧ n ≤ n' ∧ mAt h' n' o.2.2 (nI o.1) ∧ ∀ j, (j < n ∧ j ≠ 27) → h' j = h j
theorem mOkq.of {o : Nat × Value × cS} {d : Value} {h h' : mH} {n n' : Nat} {x : Value} {S' : cS} {v : Option Value} {kx sx : Nat → Nat} (ho : o = (0, x, S')) (hv : v = some x) (hn : n ≤ n') (hc : h' 27 = mObj S' (nI 0)) (h39 : 39 ≤ n') (hR : mRows h' n' S' kx sx) (hf : ∀ j, (j < n ∧ j ≠ 27) → h' j = h j) : mOkq o d h n v h' n' := by
  subst ho
  exact ⟨hv, hn, ⟨hc, h39, kx, sx, hR⟩, hf⟩
theorem mOkq.ok {o : Nat × Value × cS} {d : Value} {h h' : mH} {n n' : Nat} {v : Option Value} (h39 : 39 ≤ n) (hc : mOkq o d h n v h' n') : mOk o d h n v h' n' := ⟨hc.1, hc.2.1, hc.2.2.1, fun j hj => hc.2.2.2 j (by omega)⟩
theorem chF_l {xs : List mIt} {pl : Nat → Nat} {n : Nat} : (chF xs pl n).length = n := zipF_len
def it (xs : List mIt) (k : Nat) : mIt := (xk xs k, xt xs k)
def rl (xs : List mIt) (a b : Nat) : Bool := decide (xk xs a < xk xs b) || (decide (xk xs a = xk xs b) && decide (a ≤ b))
theorem rl_iff {xs : List mIt} {a b : Nat} : rl xs a b = true ↔ (xk xs a).toInt < (xk xs b).toInt ∨ ((xk xs a).toInt = (xk xs b).toInt ∧ a ≤ b) := by
  unfold rl
  rw [Bool.or_eq_true, Bool.and_eq_true, decide_eq_true_iff, decide_eq_true_iff, decide_eq_true_iff, Int32.lt_iff_toInt_lt, ← Int32.toInt_inj]
theorem rl_trans {xs : List mIt} (a b c : Nat) : rl xs a b = true → rl xs b c = true → rl xs a c = true := by
  rw [rl_iff, rl_iff, rl_iff]
  omega
theorem rl_total {xs : List mIt} (a b : Nat) : (rl xs a b || rl xs b a) = true := by
  rw [Bool.or_eq_true, rl_iff, rl_iff]
  omega
theorem rl_anti {xs : List mIt} {a b : Nat} (h : rl xs a b = true) (h2 : rl xs b a = true) : a = b := by
  rw [rl_iff] at h h2
  omega
theorem rl_wle {xs : List mIt} {a b : Nat} (h : a < b) : rl xs a b = wle (it xs a) (it xs b) := by
  have e : wle (it xs a) (it xs b) = true ↔ ¬ (xk xs b).toInt < (xk xs a).toInt := by
    unfold wle it
    rw [Bool.not_eq_true', decide_eq_false_iff_not, Int32.lt_iff_toInt_lt]
  cases h1 : wle (it xs a) (it xs b) with
  | true =>
    have h2 := e.mp h1
    rw [rl_iff]
    omega
  | false =>
    rw [Bool.eq_false_iff]
    intro h2
    rw [rl_iff] at h2
    have h3 : ¬ ¬ (xk xs b).toInt < (xk xs a).toInt := fun z => by rw [e.mpr z] at h1; cases h1
    omega
theorem merge_map {α β : Type} {f : α → β} {r : α → α → Bool} {s : β → β → Bool} : ∀ (l l' : List α), (∀ a ∈ l, ∀ b ∈ l', r a b = s (f a) (f b)) → (List.merge l l' r).map f = List.merge (l.map f) (l'.map f) s := by
  intro l
  induction l with
  | nil => intro l' h; simp
  | cons a l ih =>
    intro l'
    induction l' with
    | nil => intro h; simp
    | cons b l' ih2 =>
      intro h
      have h0 := h a List.mem_cons_self b List.mem_cons_self
      rw [List.cons_merge_cons, List.map_cons, List.map_cons, List.cons_merge_cons, ← h0]
      split
      · rw [List.map_cons, ih (b :: l') (fun x hx y hy => h x (List.mem_cons_of_mem _ hx) y hy), List.map_cons]
      · rw [List.map_cons, ih2 (fun x hx y hy => h x hx y (List.mem_cons_of_mem _ hy)), List.map_cons]
/-- the items of the places s .. e - 1, in order -/
def Bk (xs : List mIt) (s e : Nat) (zs : List mIt) : Prop := ∃ B : List Nat, zs = B.map (it xs) ∧ B.Pairwise (fun a b => rl xs a b = true) ∧ B.Perm (List.range' s (e - s))
theorem Bk.merge {xs as bs : List mIt} {s m e : Nat} (hsm : s ≤ m) (hme : m ≤ e) (h1 : Bk xs s m as) (h2 : Bk xs m e bs) : Bk xs s e (List.merge as bs wle) := by
  obtain ⟨A, rfl, pA, qA⟩ := h1
  obtain ⟨B, rfl, pB, qB⟩ := h2
  refine ⟨List.merge A B (rl xs), (merge_map (f := it xs) (r := rl xs) (s := wle) A B (fun a ha b hb => rl_wle ?_)).symm, List.pairwise_merge rl_trans rl_total A B pA pB, ?_⟩
  · have h3 := qA.mem_iff.mp ha
    have h4 := qB.mem_iff.mp hb
    rw [List.mem_range'_1] at h3 h4
    omega
  · have h5 : List.range' s (m - s) ++ List.range' m (e - m) = List.range' s (e - s) := by
      have h6 := List.range'_append_1 (s := s) (m := m - s) (n := e - m)
      rw [show s + (m - s) = m by omega, show m - s + (e - m) = e - s by omega] at h6
      exact h6
    rw [← h5]
    exact List.Perm.trans (List.merge_perm_append (rl xs)) (List.Perm.append qA qB)
theorem Bk.uniq {xs as bs : List mIt} {s e : Nat} (h1 : Bk xs s e as) (h2 : Bk xs s e bs) : as = bs := by
  obtain ⟨A, rfl, pA, qA⟩ := h1
  obtain ⟨B, rfl, pB, qB⟩ := h2
  rw [List.Perm.eq_of_pairwise (fun a b _ _ h3 h4 => rl_anti h3 h4) pA pB (qA.trans qB.symm)]
theorem Bk.nil {xs : List mIt} {s e : Nat} (h : e ≤ s) : Bk xs s e [] := ⟨[], rfl, List.Pairwise.nil, by rw [show e - s = 0 by omega]; exact List.Perm.refl _⟩
/-- a rising stretch is in order as it is -/
theorem Bk.rising {xs : List mIt} {s e : Nat} (h : ∀ i j, s ≤ i → i < j → j < e → ¬ xk xs j < xk xs i) : Bk xs s e ((List.range' s (e - s)).map (it xs)) := by
  refine ⟨_, rfl, ?_, List.Perm.refl _⟩
  refine (List.pairwise_lt_range' (s := s) (n := e - s)).imp_of_mem (fun {a b} ha hb hab => ?_)
  rw [List.mem_range'_1] at ha hb
  have h1 := h a b (by omega) hab (by omega)
  rw [Int32.lt_iff_toInt_lt] at h1
  rw [rl_iff]
  omega
theorem span_map {xs : List mIt} {e : Nat} (he : e ≤ xs.length) : ∀ (d s : Nat), s + d = e → span xs s e = (List.range' s d).map (it xs) := by
  intro d
  induction d with
  | zero =>
    intro s h
    unfold span
    rw [List.drop_eq_nil_of_le (by rw [List.length_take]; omega)]
    rfl
  | succ d ih =>
    intro s h
    rw [span_cons (by omega) he, ih (s + 1) (by omega), List.range'_succ, List.map_cons]
    rfl
theorem mlp_count {c : Nat → Prop} {dc : ∀ j, Decidable (c j)} : ∀ (d s a : Nat), mlp (fun j acc => if c j then acc + 1 else acc) d s a = a + (List.range' s d).countP (fun j => decide (c j)) := by
  intro d
  induction d with
  | zero => intro s a; rfl
  | succ d ih =>
    intro s a
    rw [List.range'_succ, List.countP_cons]
    show mlp _ d (s + 1) (if c s then a + 1 else a) = _
    rw [ih]
    by_cases h : c s
    · rw [if_pos h, if_pos (by simpa using h)]; omega
    · rw [if_neg h, if_neg (by simpa using h)]; omega
theorem rank_at {xs : List mIt} {P : List Nat} (hp : P.Pairwise (fun a b => rl xs a b = true)) (hq : P.Perm (List.range' 0 xs.length)) {i : Nat} (hi : i < P.length) : rankf xs P[i] = i := by
  have hnd : P.Nodup := hq.nodup_iff.mpr (List.nodup_range' (s := 0) (n := xs.length))
  unfold rankf
  rw [mlp_count, Nat.sub_zero, Nat.zero_add, ← hq.countP_eq]
  have hs : P = P.take i ++ (P[i] :: P.drop (i + 1)) := by rw [← List.drop_eq_getElem_cons hi, List.take_append_drop]
  have hp2 := hp
  have hn2 := hnd
  rw [hs] at hp2 hn2
  obtain ⟨p1, p2, p3⟩ := List.pairwise_append.mp hp2
  obtain ⟨p4, p5⟩ := List.pairwise_cons.mp p2
  obtain ⟨n1, n2, n3⟩ := List.nodup_append.mp hn2
  obtain ⟨n4, n5⟩ := List.nodup_cons.mp n2
  have key : ∀ (c : Nat → Bool), (∀ a ∈ P.take i, c a = true) → c P[i] = false → (∀ a ∈ P.drop (i + 1), c a = false) → P.countP c = i := by
    intro c c1 c2 c3
    have e1 : (P.take i ++ (P[i] :: P.drop (i + 1))).countP c = i := by
      rw [List.countP_append, List.countP_cons_of_neg (by rw [c2]; decide), List.countP_eq_length.mpr c1, List.countP_eq_zero.mpr (fun a ha => by rw [c3 a ha]; decide), List.length_take]
      omega
    rwa [← hs] at e1
  refine key _ (fun a ha => ?_) ?_ (fun a ha => ?_)
  · have h1 := p3 a ha P[i] List.mem_cons_self
    have h2 : a ≠ P[i] := n3 a ha P[i] List.mem_cons_self
    rw [rl_iff] at h1
    rw [decide_eq_true_iff, Int32.lt_iff_toInt_lt, ← Int32.toInt_inj]
    omega
  · rw [decide_eq_false_iff_not, Int32.lt_iff_toInt_lt]
    omega
  · have h1 := p4 a ha
    have h2 : a ≠ P[i] := fun z => n4 (z ▸ ha)
    rw [rl_iff] at h1
    rw [decide_eq_false_iff_not, Int32.lt_iff_toInt_lt, ← Int32.toInt_inj]
    omega
theorem scat_of {xs : List mIt} {i K : Nat} : ∀ (d s : Nat) (p : Nat → Nat), (∀ k, s ≤ k → k < s + d → rankf xs k = i → k = K) → ((s ≤ K ∧ K < s + d ∧ rankf xs K = i) ∨ p i = K) → mlp (scS xs) d s p i = K := by
  intro d
  induction d with
  | zero =>
    intro s p _ h
    rcases h with h | h
    · omega
    · exact h
  | succ d ih =>
    intro s p h1 h2
    refine ih (s + 1) (scS xs s p) (fun k k1 k2 k3 => h1 k (by omega) (by omega) k3) ?_
    by_cases hs : i = rankf xs s
    · exact Or.inr ((if_pos hs).trans (h1 s (Nat.le_refl _) (by omega) hs.symm))
    · rcases h2 with ⟨h3, h4, h5⟩ | h2
      · by_cases e : s = K
        · subst e
          exact absurd h5.symm hs
        · exact Or.inl ⟨by omega, by omega, h5⟩
      · exact Or.inr ((if_neg hs).trans h2)
/-- by ranks -/
theorem rank_bk {xs zs : List mIt} (h : Bk xs 0 xs.length zs) : chF xs (scat xs) xs.length = zs := by
  obtain ⟨P, rfl, hp, hq⟩ := h
  rw [Nat.sub_zero] at hq
  have hl : P.length = xs.length := by rw [hq.length_eq, List.length_range']
  apply List.ext_getElem
  · rw [chF_l, List.length_map, hl]
  · intro i h1 h2
    rw [chF_l] at h1
    have hi : i < P.length := by omega
    have e : scat xs i = P[i] := by
      unfold scat
      refine scat_of _ _ _ (fun k k1 k2 k3 => ?_) (Or.inl ⟨Nat.zero_le _, ?_, rank_at hp hq hi⟩)
      · have hk : k ∈ P := hq.mem_iff.mpr (List.mem_range'_1.mpr ⟨Nat.zero_le _, by omega⟩)
        obtain ⟨j, hj, rfl⟩ := List.getElem_of_mem hk
        have := rank_at hp hq hj
        rw [this] at k3
        subst k3
        rfl
      · have := List.mem_range'_1.mp (hq.mem_iff.mp (List.getElem_mem hi))
        omega
    rw [xk_get (by rw [chF_l]; exact h1), List.getElem_map]
    unfold chF it
    rw [xk_zip h1, xt_zip h1, e]
def Blk (xs : List mIt) (wd : Nat) (ys : List mIt) : Prop := ys.length = xs.length ∧ ∀ s, s < xs.length → wd ∣ s → Bk xs s (min (s + wd) xs.length) (span ys s (min (s + wd) xs.length))
theorem mpass_span {ys : List mIt} {wd : Nat} (hw : 0 < wd) : ∀ (d s : Nat) (p : List mIt × Int32), ys.length ≤ s + d → p.1.length = min s ys.length → (mpass ys wd d s p).1.take p.1.length = p.1 ∧ ∀ s', s ≤ s' → 2 * wd ∣ s' - s → s' < ys.length → span (mpass ys wd d s p).1 s' (min (s' + 2 * wd) ys.length) = List.merge (span ys s' (min (s' + wd) ys.length)) (span ys (min (s' + wd) ys.length) (min (s' + 2 * wd) ys.length)) wle := by
  intro d
  induction d with
  | zero =>
    intro s p h hp
    exact ⟨List.take_length, fun s' h1 _ h3 => absurd h3 (by omega)⟩
  | succ d ih =>
    intro s p h hp
    by_cases hs : s < ys.length
    · rw [mpass, if_pos hs]
      have hM : (List.merge (span ys s (min (s + wd) ys.length)) (span ys (min (s + wd) ys.length) (min (s + 2 * wd) ys.length)) wle).length = min (s + 2 * wd) ys.length - s := by
        rw [List.length_merge, span_len (Nat.min_le_right _ _), span_len (Nat.min_le_right _ _)]
        omega
      obtain ⟨i1, i2⟩ := ih (s + 2 * wd) (p.1 ++ List.merge (span ys s (min (s + wd) ys.length)) (span ys (min (s + wd) ys.length) (min (s + 2 * wd) ys.length)) wle, p.2 + winv (span ys s (min (s + wd) ys.length)) (span ys (min (s + wd) ys.length) (min (s + 2 * wd) ys.length))) (by omega) (by rw [List.length_append, hM]; omega)
      generalize (mpass ys wd d (s + 2 * wd) (p.1 ++ List.merge (span ys s (min (s + wd) ys.length)) (span ys (min (s + wd) ys.length) (min (s + 2 * wd) ys.length)) wle, p.2 + winv (span ys s (min (s + wd) ys.length)) (span ys (min (s + wd) ys.length) (min (s + 2 * wd) ys.length)))).1 = R at i1 i2
      dsimp only at i1
      refine ⟨?_, fun s' h1 h2 h3 => ?_⟩
      · have := congrArg (List.take p.1.length) i1
        rw [List.take_take, List.take_left, Nat.min_eq_left (by rw [List.length_append]; omega)] at this
        exact this
      · by_cases e : s' = s
        · subst e
          unfold span
          rw [show min (s' + 2 * wd) ys.length = (p.1 ++ List.merge (span ys s' (min (s' + wd) ys.length)) (span ys (min (s' + wd) ys.length) (min (s' + 2 * wd) ys.length)) wle).length by rw [List.length_append, hM]; omega, i1]
          rw [List.drop_append_of_le_length (by omega), List.drop_eq_nil_of_le (by omega), List.nil_append]
          rw [show (p.1 ++ List.merge (span ys s' (min (s' + wd) ys.length)) (span ys (min (s' + wd) ys.length) (min (s' + 2 * wd) ys.length)) wle).length = min (s' + 2 * wd) ys.length by rw [List.length_append, hM]; omega]
          rfl
        · obtain ⟨k, hk⟩ := h2
          have hk0 : 0 < k := by
            rcases Nat.eq_zero_or_pos k with z | z
            · subst z; omega
            · exact z
          obtain ⟨k', rfl⟩ : ∃ k', k = k' + 1 := ⟨k - 1, by omega⟩
          rw [Nat.mul_add, Nat.mul_one] at hk
          exact i2 s' (by omega) ⟨k', by omega⟩ h3
    · rw [mpass, if_neg hs]
      exact ⟨List.take_length, fun s' h1 _ h3 => absurd h3 (by omega)⟩
theorem Blk.round {xs ys : List mIt} {wd : Nat} (hw : 0 < wd) (h : Blk xs wd ys) : Blk xs (wd * 2) (mround ys wd).1 := by
  obtain ⟨h1, h2⟩ := h
  refine ⟨(mround_len hw).trans h1, fun s hs hd => ?_⟩
  have h3 := (mpass_span (ys := ys) hw ys.length 0 ([], nI 0) (by omega) (by simp)).2 s (Nat.zero_le _) (by rw [Nat.sub_zero, Nat.mul_comm]; exact hd) (by omega)
  rw [h1] at h3
  unfold mround
  rw [h1, Nat.mul_comm wd 2, h3]
  have d1 : wd ∣ s := Nat.dvd_trans ⟨2, rfl⟩ hd
  refine Bk.merge (by omega) (by omega) (h2 s hs d1) ?_
  by_cases e : s + wd < xs.length
  · rw [Nat.min_eq_left (by omega), show s + 2 * wd = s + wd + wd by omega]
    exact h2 (s + wd) e (Nat.dvd_add d1 (Nat.dvd_refl _))
  · rw [Nat.min_eq_right (by omega), Nat.min_eq_right (by omega)]
    unfold span
    rw [List.drop_eq_nil_of_le (by rw [List.length_take]; omega)]
    exact Bk.nil (Nat.le_refl _)
theorem Blk.all {xs ys : List mIt} {wd : Nat} (h : Blk xs wd ys) (hw : xs.length ≤ wd) : Bk xs 0 xs.length ys := by
  obtain ⟨h1, h2⟩ := h
  rcases Nat.eq_zero_or_pos xs.length with e | e
  · rw [e] at h1
    rw [List.eq_nil_of_length_eq_zero h1]
    exact Bk.nil (by omega)
  · have h3 := h2 0 e ⟨0, rfl⟩
    rw [Nat.zero_add, Nat.min_eq_right hw, ← h1, span_all] at h3
    rw [← h1]
    exact h3
theorem msrt_bk {xs : List mIt} : ∀ (d wd : Nat) (p : List mIt × Int32), 0 < wd → xs.length ≤ wd + d → Blk xs wd p.1 → Bk xs 0 xs.length (msrt d wd p).1 := by
  intro d
  induction d with
  | zero => intro wd p hw h hb; exact hb.all (by omega)
  | succ d ih =>
    intro wd p hw h hb
    rw [msrt]
    by_cases q : wd < p.1.length
    · rw [if_pos q]
      exact ih (wd * 2) _ (by omega) (by omega) (hb.round hw)
    · rw [if_neg q]
      exact hb.all (by have := hb.1; omega)
theorem msort_bk {xs : List mIt} : Bk xs 0 xs.length (msort xs).1 := by
  refine msrt_bk _ _ _ (by decide) (by omega) ⟨rfl, fun s hs _ => ?_⟩
  rw [Nat.min_eq_left (by omega)]
  show Bk xs s (s + 1) (span xs s (s + 1))
  rw [span_map (by omega) 1 s rfl]
  exact ⟨[s], rfl, List.pairwise_singleton _ _, by rw [show s + 1 - s = 1 by omega]; exact List.Perm.refl _⟩
/-- the class's sorted row is the reference's -/
theorem msort_scat {xs : List mIt} : chF xs (scat xs) xs.length = (msort xs).1 := rank_bk msort_bk
/-- rising, pair by pair -/
theorem mall_all {p : Nat → Bool} : ∀ (d i : Nat), mall p d i = true ↔ ∀ j, i ≤ j → j < i + d → p j = true := by
  intro d
  induction d with
  | zero => intro i; exact ⟨fun _ j h1 h2 => absurd h2 (by omega), fun _ => rfl⟩
  | succ d ih =>
    intro i
    show (p i && mall p d (i + 1)) = true ↔ _
    rw [Bool.and_eq_true, ih]
    constructor
    · rintro ⟨h1, h2⟩ j j1 j2
      by_cases e : j = i
      · subst e; exact h1
      · exact h2 j (by omega) (by omega)
    · intro h
      exact ⟨h i (Nat.le_refl _) (by omega), fun j j1 j2 => h j (by omega) (by omega)⟩
theorem rising_iff {xs : List mIt} : q_isRising xs = true ↔ ∀ i j, i < j → j < xs.length → ¬ xk xs j < xk xs i := by
  unfold q_isRising
  rw [mall_all]
  constructor
  · intro h i j hij
    induction j with
    | zero => omega
    | succ j ih =>
      intro hj
      have h1 := h (j + 1) (by omega) (by omega)
      rw [decide_eq_true_iff, Nat.add_sub_cancel, Int32.lt_iff_toInt_lt] at h1
      by_cases e : i = j
      · subst e; rw [Int32.lt_iff_toInt_lt]; exact h1
      · have h2 := ih (by omega) (by omega)
        rw [Int32.lt_iff_toInt_lt] at h2 ⊢
        omega
  · intro h j j1 j2
    rw [decide_eq_true_iff]
    exact h (j - 1) j (by omega) (by omega)
theorem rising_part {xs : List mIt} {s e : Nat} (he : e ≤ xs.length) (hs : s ≤ e) (h : ∀ i j, s ≤ i → i < j → j < e → ¬ xk xs j < xk xs i) : Bk xs s e (span xs s e) := by
  rw [span_map he (e - s) s (by omega)]
  exact Bk.rising h
/-- two rising stretches woven: the whole in order -/
theorem weave_scat {xs : List mIt} {m : Nat} (hm : m ≤ xs.length) (h1 : ∀ i j, i < j → j < m → ¬ xk xs j < xk xs i) (h2 : ∀ i j, m ≤ i → i < j → j < xs.length → ¬ xk xs j < xk xs i) : chF xs (scat xs) xs.length = weave xs m :=
  rank_bk (Bk.merge (Nat.zero_le _) hm (rising_part hm (Nat.zero_le _) (fun i j _ => h1 i j)) (rising_part (Nat.le_refl _) hm h2))

theorem it_get {xs : List mIt} {i : Nat} : it xs i = xs.getD i (0, 0) := rfl
theorem xs_ext {xs ys : List mIt} (hl : xs.length = ys.length) (h : ∀ i, i < xs.length → it xs i = it ys i) : xs = ys := by
  refine List.ext_getElem hl (fun i h1 h2 => ?_)
  rw [xk_get h1, xk_get h2]
  exact h i h1
theorem it_app_lt {xs zs : List mIt} {i : Nat} (h : i < xs.length) : it (xs ++ zs) i = it xs i := by
  unfold it
  rw [xk_app_lt h, xt_app_lt h]
theorem it_app_ge {xs zs : List mIt} {i : Nat} (h : xs.length ≤ i) : it (xs ++ zs) i = it zs (i - xs.length) := by
  rw [it_get, it_get, List.getD_eq_getElem?_getD, List.getD_eq_getElem?_getD, List.getElem?_append_right h]
theorem it_rv {xs : List mIt} : ∀ {d i : Nat}, i < d → it (rv xs d) i = it xs (d - 1 - i)
  | d + 1, 0, _ => rfl
  | d + 1, i + 1, h => by
    show it (rv xs d) i = _
    rw [it_rv (by omega), show d + 1 - 1 - (i + 1) = d - 1 - i by omega]
def bst (t ft : Bool) (xs : List mIt) (g : Int32) (i k : Nat) : Int32 := if t = true then (if ft = true then xt xs k else g + nI (k - i)) else -1
def bgv (t ft : Bool) (d : Nat) (g : Int32) : Int32 := if t = true then (if ft = true then g else g + nI d) else g
theorem nI_step {g : Int32} {a : Nat} : g + nI 1 + nI a = g + nI (a + 1) := by rw [Int32.add_assoc, nI_add, Nat.add_comm]
theorem bring_go {xs : List mIt} {t ft : Bool} : ∀ (d i : Nat) (ys : List mIt) (g : Int32), mlp (stBring xs t ft) d i (ys, g) = (ys ++ (List.range' i d).map (fun k => (xk xs k, bst t ft xs g i k)), bgv t ft d g) := by
  intro d
  induction d with
  | zero =>
    intro i ys g
    show (ys, g) = _
    rw [show (List.range' i 0) = [] from rfl, List.map_nil, List.append_nil]
    unfold bgv
    cases t <;> cases ft <;> simp [show nI 0 = (0 : Int32) from rfl]
  | succ d ih =>
    intro i ys g
    show mlp (stBring xs t ft) d (i + 1) (ys ++ [(xk xs i, cst t ft (xt xs i) g)], cgv t ft g) = _
    rw [ih, List.range'_succ, List.map_cons, List.append_assoc]
    have e1 : bgv t ft d (cgv t ft g) = bgv t ft (d + 1) g := by
      unfold bgv cgv
      cases t <;> cases ft <;> simp only [if_true, if_false, Bool.false_eq_true, nI_step]
    have e2 : cst t ft (xt xs i) g = bst t ft xs g i i := by
      unfold cst bst
      rw [Nat.sub_self, show nI 0 = (0 : Int32) from rfl, Int32.add_zero]
    have e3 : (List.range' (i + 1) d).map (fun k => (xk xs k, bst t ft xs (cgv t ft g) (i + 1) k)) = (List.range' (i + 1) d).map (fun k => (xk xs k, bst t ft xs g i k)) := by
      refine List.map_congr_left (fun k hk => ?_)
      have hk2 := List.mem_range'_1.mp hk
      refine congrArg (fun z => (xk xs k, z)) ?_
      unfold bst cgv
      cases t <;> cases ft <;> simp only [if_true, if_false, Bool.false_eq_true]
      rw [nI_step, show k - (i + 1) + 1 = k - i by omega]
    rw [e1, e2, e3]
    rfl
theorem side_1 {x y : Int32} : sideF x y = nI 1 ↔ y < x := by
  unfold sideF
  by_cases h1 : x < y
  · rw [if_pos h1]
    rw [Int32.lt_iff_toInt_lt] at h1 ⊢
    exact ⟨fun z => absurd z (by decide), fun z => by omega⟩
  · rw [if_neg h1]
    by_cases h2 : x = y
    · rw [if_pos h2, h2, Int32.lt_iff_toInt_lt]
      exact ⟨fun z => absurd z (by decide), fun z => absurd z (by omega)⟩
    · rw [if_neg h2]
      rw [Int32.lt_iff_toInt_lt] at h1 ⊢
      rw [← Int32.toInt_inj] at h2
      exact ⟨fun _ => by omega, fun _ => rfl⟩
theorem sum_in {c : Nat → Prop} {dc : ∀ o, Decidable (c o)} : ∀ (d s a : Nat), ∃ m, m ≤ d ∧ mlp (fun o (acc : Int32) => acc + (if c o then nI 1 else nI 0)) d s (nI a) = nI (a + m) ∧ (m = 0 ↔ ∀ o, s ≤ o → o < s + d → ¬ c o) := by
  intro d
  induction d with
  | zero => intro s a; exact ⟨0, Nat.le_refl _, rfl, ⟨fun _ o h1 h2 => absurd h2 (by omega), fun _ => rfl⟩⟩
  | succ d ih =>
    intro s a
    by_cases h : c s
    · obtain ⟨m, m1, m2, m3⟩ := ih (s + 1) (a + 1)
      refine ⟨m + 1, by omega, ?_, ⟨fun z => absurd z (by omega), fun z => absurd h (z s (Nat.le_refl _) (by omega))⟩⟩
      show mlp _ d (s + 1) (nI a + (if c s then nI 1 else nI 0)) = _
      rw [if_pos h, nI_add, m2, show a + 1 + m = a + (m + 1) by omega]
    · obtain ⟨m, m1, m2, m3⟩ := ih (s + 1) a
      refine ⟨m, by omega, ?_, ?_⟩
      · show mlp _ d (s + 1) (nI a + (if c s then nI 1 else nI 0)) = _
        rw [if_neg h, nI_add]
        exact m2
      · rw [m3]
        exact ⟨fun z o o1 o2 => if e : o = s then e ▸ h else z o (by omega) (by omega), fun z o o1 o2 => z o (by omega) (by omega)⟩
theorem pairs_in {xs : List mIt} {how : Int32} : ∀ (d s a : Nat), ∃ m, m ≤ d * (s + d) ∧ mlp (fun k acc => mlp (prS xs how k) (k - 0) 0 acc) d s (nI a) = nI (a + m) ∧ (m = 0 ↔ ∀ k o, s ≤ k → k < s + d → o < k → ¬ sideF (xk xs o) (xk xs k) = how) := by
  intro d
  induction d with
  | zero => intro s a; exact ⟨0, Nat.zero_le _, rfl, ⟨fun _ k o h1 h2 _ => absurd h2 (by omega), fun _ => rfl⟩⟩
  | succ d ih =>
    intro s a
    obtain ⟨m1, k1, k2, k3⟩ := sum_in (c := fun o => sideF (xk xs o) (xk xs s) = how) (dc := fun _ => inferInstance) (s - 0) 0 a
    obtain ⟨m2, j1, j2, j3⟩ := ih (s + 1) (a + m1)
    refine ⟨m1 + m2, ?_, ?_, ?_⟩
    · have e1 : (d + 1) * (s + (d + 1)) = d * (s + 1 + d) + (s + (d + 1)) := by rw [Nat.add_mul, Nat.one_mul, show s + (d + 1) = s + 1 + d by omega]
      omega
    · show mlp _ d (s + 1) (mlp (prS xs how s) (s - 0) 0 (nI a)) = _
      rw [show mlp (prS xs how s) (s - 0) 0 (nI a) = nI (a + m1) from k2, j2, Nat.add_assoc]
    · constructor
      · intro z k o h1 h2 h3
        by_cases e : k = s
        · subst e
          exact k3.mp (by omega) o (Nat.zero_le _) (by omega)
        · exact j3.mp (by omega) k o (by omega) (by omega) h3
      · intro z
        have z1 := k3.mpr (fun o _ h2 => z s o (Nat.le_refl _) (by omega) (by omega))
        have z2 := j3.mpr (fun k o h1 h2 h3 => z k o (by omega) (by omega) h3)
        omega
def fst9 (bl : Bool) (g : Int32) (i k : Nat) : Int32 := if bl = true then g + nI (k - i) else -1
theorem fst_0 {bl : Bool} {g : Int32} {i : Nat} : nst bl g = fst9 bl g i i := by
  unfold nst fst9
  rw [Nat.sub_self, show nI 0 = (0 : Int32) from rfl, Int32.add_zero]
theorem fst_s {bl : Bool} {g : Int32} {i k : Nat} (h : i < k) : fst9 bl (ngv bl g) (i + 1) k = fst9 bl g i k := by
  unfold fst9 ngv
  cases bl <;> simp only [if_true, if_false, Bool.false_eq_true]
  rw [nI_step, show k - (i + 1) + 1 = k - i by omega]
def fgv (bl : Bool) (d : Nat) (g : Int32) : Int32 := if bl = true then g + nI d else g
theorem fgv_0 {bl : Bool} {g : Int32} : fgv bl 0 g = g := by
  unfold fgv
  cases bl <;> simp [show nI 0 = (0 : Int32) from rfl]
theorem fgv_s {bl : Bool} {g : Int32} {d : Nat} : fgv bl d (ngv bl g) = fgv bl (d + 1) g := by
  unfold fgv ngv
  cases bl <;> simp only [if_true, if_false, Bool.false_eq_true, nI_step]
theorem pat_go {p m : Nat} {a : Int32} {b : Nat} {bl : Bool} : ∀ (d i : Nat) (ys : List mIt) (g : Int32), mlp (stPat p m a b bl) d i (ys, g) = (ys ++ (List.range' i d).map (fun k => (patKey p k m a b, fst9 bl g i k)), fgv bl d g) := by
  intro d
  induction d with
  | zero =>
    intro i ys g
    rw [fgv_0]
    exact Prod.ext (List.append_nil ys).symm rfl
  | succ d ih =>
    intro i ys g
    show mlp (stPat p m a b bl) d (i + 1) (ys ++ [(patKey p i m a b, nst bl g)], ngv bl g) = _
    rw [ih, List.range'_succ, List.map_cons, List.append_assoc, fgv_s, fst_0 (i := i)]
    have e3 : (List.range' (i + 1) d).map (fun k => (patKey p k m a b, fst9 bl (ngv bl g) (i + 1) k)) = (List.range' (i + 1) d).map (fun k => (patKey p k m a b, fst9 bl g i k)) := List.map_congr_left (fun k hk => by rw [fst_s (by have := List.mem_range'_1.mp hk; omega)])
    rw [e3]
    rfl
def lenOk (S : cS) : Prop := ∀ r, r < 4 → (S.1 r).length ≤ rroom r
section MTZ
variable {l : Launch} {M : mM} {R : Room} {K : mK} {pc : Nat} {ls st : List Value} {h : mH} {n cc sc : Nat}
theorem mt_lcmpE {x : Int64} (hdg : decode M.2.1 pc = .ok (.lcmp, 1)) (k : mT l M R K (pc + 1) ls (.int (nI 0) :: st) h n cc sc) : mT l M R K pc ls (.long x :: .long x :: st) h n cc sc := mt_lift k (fun _ _ _ hx hb hr => by
  obtain ⟨_, rfl, hr2⟩ := hr.long
  obtain ⟨_, rfl, hr3⟩ := hr2.long
  exact ⟨_, mrl.cons (v' := .int (nI 0)) rfl hr3, fun kk => W.lcmp hx hb hdg (by rw [show lg_cmp x x = nI 0 from by unfold lg_cmp; rw [if_neg (by rw [gt_iff_lt, Int64.lt_iff_toInt_lt]; omega), if_pos rfl]; rfl]; exact kk)⟩)
end MTZ
theorem lenOk_of {h : mH} {S : cS} (C : cAt h S) : lenOk S := fun r hr => (C.2.2.2.1 r hr).len.1
/-- the reference's outcome o' is the class's o: its kind, and its answer where it is let -/
def vEq (o o' : Nat × Value × cS) : Prop := o'.1 = o.1 ∧ (o.1 = 0 → o'.2.1 = o.2.1)
theorem vEq.rf {o : Nat × Value × cS} : vEq o o := ⟨rfl, fun _ => rfl⟩
theorem vEq.of {v v' : Value} {S S' : cS} (h : v' = v) : vEq (0, v, S) (0, v', S') := ⟨rfl, fun _ => h⟩
theorem lenOk.lt {S : cS} (hS : lenOk S) {r : Nat} (hr : r < 4) : (S.1 r).length < 2 ^ 30 := by
  have h1 := hS r hr
  have h2 := @rroom_le r
  omega
theorem swp_xk {xs : List mIt} {p q i : Nat} (hp : p < xs.length) (hq : q < xs.length) : xk (swp xs p q) i = if i = q then xk xs p else if i = p then xk xs q else xk xs i := by
  unfold swp
  rw [xk_put (by rw [List.length_set]; exact hq)]
  split
  · rfl
  · rw [xk_put hp]
theorem wrong_0 {xs : List mIt} (hL : xs.length ≤ 320) : (mq_pairs xs (nI 1) = 0) ↔ q_isRising xs = true := by
  obtain ⟨m, m1, m2, m3⟩ := pairs_in (xs := xs) (how := nI 1) xs.length 0 0
  have e : mq_pairs xs (nI 1) = nI (0 + m) := m2
  have hb : xs.length * (0 + xs.length) ≤ 320 * 320 := by
    rw [Nat.zero_add]
    exact Nat.mul_le_mul hL hL
  rw [e, Nat.zero_add, mI_eq0 (by omega), m3, rising_iff]
  constructor
  · intro z i j h1 h2 h3
    exact z j i (Nat.zero_le _) (by omega) h1 (side_1.mpr h3)
  · intro z k o _ h2 h3 h4
    exact z o k h3 (by omega) (side_1.mp h4)
theorem lenOk.le {S : cS} (hS : lenOk S) {r : Nat} (hr : r < 4) : (S.1 r).length ≤ 320 := Nat.le_trans (hS r hr) rroom_le
/-- the pairs i < j of a row with c of their keys -/
def pr (c : Int32 → Int32 → Bool) : List mIt → Nat
  | [] => 0
  | a :: l => l.countP (fun b => c a.1 b.1) + pr c l
/-- the pairs across two rows -/
def cr (c : Int32 → Int32 → Bool) (as bs : List mIt) : Nat := (as.map (fun a => bs.countP (fun b => c a.1 b.1))).sum
theorem cr_nil {c : Int32 → Int32 → Bool} {bs : List mIt} : cr c [] bs = 0 := rfl
theorem cr_cons {c : Int32 → Int32 → Bool} {a : mIt} {as bs : List mIt} : cr c (a :: as) bs = bs.countP (fun b => c a.1 b.1) + cr c as bs := by
  unfold cr
  rw [List.map_cons, List.sum_cons]
theorem cr_app {c : Int32 → Int32 → Bool} {as as' bs : List mIt} : cr c (as ++ as') bs = cr c as bs + cr c as' bs := by
  unfold cr
  rw [List.map_append, List.sum_append]
theorem cr_appR {c : Int32 → Int32 → Bool} : ∀ {as bs bs' : List mIt}, cr c as (bs ++ bs') = cr c as bs + cr c as bs'
  | [], _, _ => rfl
  | a :: as, bs, bs' => by
    rw [cr_cons, cr_cons, cr_cons, List.countP_append, cr_appR]
    omega
theorem pr_app {c : Int32 → Int32 → Bool} : ∀ {as bs : List mIt}, pr c (as ++ bs) = pr c as + pr c bs + cr c as bs
  | [], bs => by
    rw [List.nil_append, cr_nil]
    show pr c bs = 0 + pr c bs + 0
    omega
  | a :: as, bs => by
    show (as ++ bs).countP _ + pr c (as ++ bs) = (as.countP _ + pr c as) + pr c bs + _
    rw [List.countP_append, pr_app, cr_cons]
    omega
theorem cr_permL {c : Int32 → Int32 → Bool} {as as' bs : List mIt} (h : as.Perm as') : cr c as bs = cr c as' bs := by
  induction h with
  | nil => rfl
  | cons a _ ih => rw [cr_cons, cr_cons, ih]
  | swap a b l => rw [cr_cons, cr_cons, cr_cons, cr_cons]; omega
  | trans _ _ i1 i2 => exact i1.trans i2
theorem cr_permR {c : Int32 → Int32 → Bool} {bs bs' : List mIt} (h : bs.Perm bs') : ∀ {as : List mIt}, cr c as bs = cr c as bs'
  | [] => rfl
  | a :: as => by rw [cr_cons, cr_cons, h.countP_eq, cr_permR h]
theorem pr_congr {c d : Int32 → Int32 → Bool} (h : ∀ x y, c x y = d x y) (l : List mIt) : pr c l = pr d l := by
  rw [show c = d from funext fun x => funext fun y => h x y]
theorem pr_perm {c : Int32 → Int32 → Bool} (hc : ∀ x y, c x y = c y x) {l l' : List mIt} (h : l.Perm l') : pr c l = pr c l' := by
  induction h with
  | nil => rfl
  | cons a h1 ih =>
    show List.countP _ _ + _ = List.countP _ _ + _
    rw [h1.countP_eq, ih]
  | swap a b l =>
    show List.countP _ (a :: l) + (List.countP _ l + pr c l) = List.countP _ (b :: l) + (List.countP _ l + pr c l)
    rw [List.countP_cons, List.countP_cons, hc a.1 b.1]
    omega
  | trans _ _ i1 i2 => exact i1.trans i2
theorem drop_it {xs : List mIt} {s : Nat} (h : s < xs.length) : xs.drop s = it xs s :: xs.drop (s + 1) := by
  rw [List.drop_eq_getElem_cons h, xk_get h]
  rfl
theorem take_it {xs : List mIt} {s : Nat} (h : s < xs.length) : xs.take (s + 1) = xs.take s ++ [it xs s] := by
  rw [List.take_succ_eq_append_getElem h, xk_get h]
  rfl
theorem range_it {xs : List mIt} : ∀ (d s : Nat), s + d = xs.length → (List.range' s d).map (it xs) = xs.drop s := by
  intro d
  induction d with
  | zero => intro s h; rw [List.drop_eq_nil_of_le (by omega)]; rfl
  | succ d ih => intro s h; rw [List.range'_succ, List.map_cons, ih (s + 1) (by omega), drop_it (s := s) (by omega)]
theorem take_range {xs : List mIt} {s : Nat} (h : s ≤ xs.length) : (List.range' 0 s).map (it xs) = xs.take s := by
  rw [← span_map h s 0 (Nat.zero_add s)]
  unfold span
  rw [List.drop_zero]
theorem mlp_nI {c : Nat → Prop} {dc : ∀ j, Decidable (c j)} : ∀ (d s a : Nat), mlp (fun j (acc : Int32) => if c j then acc + 1 else acc) d s (nI a) = nI (a + (List.range' s d).countP (fun j => decide (c j))) := by
  intro d
  induction d with
  | zero => intro s a; rfl
  | succ d ih =>
    intro s a
    rw [List.range'_succ, List.countP_cons]
    show mlp _ d (s + 1) (if c s then nI a + 1 else nI a) = _
    by_cases h : c s
    · rw [if_pos h, if_pos (by simpa using h), nI_1, ih]
      exact congrArg nI (by omega)
    · rw [if_neg h, if_neg (by simpa using h), ih]
      exact congrArg nI (by omega)
theorem mlp_nI2 {c : Nat → Prop} {dc : ∀ j, Decidable (c j)} (d s a : Nat) : mlp (fun j (acc : Int32) => acc + (if c j then nI 1 else nI 0)) d s (nI a) = nI (a + (List.range' s d).countP (fun j => decide (c j))) := by
  rw [← mlp_nI]
  refine mlp_congr (fun j b _ _ => ?_)
  by_cases h : c j
  · rw [if_pos h, if_pos h]; rfl
  · rw [if_neg h, if_neg h]; exact Int32.add_zero b
/-- the reference's count -/
theorem pairs_pr {xs : List mIt} {how : Int32} : mq_pairs xs how = nI (pr (fun x y => decide (sideF x y = how)) xs) := by
  have h : ∀ (d s : Nat), s + d = xs.length → mlp (fun k acc => mlp (prS xs how k) (k - 0) 0 acc) d s (nI (pr (fun x y => decide (sideF x y = how)) (xs.take s))) = nI (pr (fun x y => decide (sideF x y = how)) xs) := by
    intro d
    induction d with
    | zero => intro s h; rw [List.take_of_length_le (by omega)]; rfl
    | succ d ih =>
      intro s h
      rw [← ih (s + 1) (by omega)]
      show mlp _ d (s + 1) (mlp (prS xs how s) (s - 0) 0 (nI _)) = _
      refine congrArg (mlp _ d (s + 1)) ?_
      refine (mlp_nI2 (c := fun o => sideF (xk xs o) (xk xs s) = how) (s - 0) 0 _).trans ?_
      rw [take_it (by omega), pr_app, Nat.sub_zero, ← take_range (show s ≤ xs.length by omega)]
      refine congrArg nI ?_
      have e1 : cr (fun x y => decide (sideF x y = how)) ((List.range' 0 s).map (it xs)) [it xs s] = (List.range' 0 s).countP (fun j => decide (sideF (xk xs j) (xk xs s) = how)) := by
        generalize List.range' 0 s = l
        induction l with
        | nil => rfl
        | cons a l ih2 =>
          rw [List.map_cons, cr_cons, ih2, List.countP_singleton, List.countP_cons]
          exact Nat.add_comm _ _
      rw [e1]
      show _ = _ + (0 + 0) + _
      omega
  have h0 := h xs.length 0 (Nat.zero_add _)
  rw [List.take_zero] at h0
  exact h0
/-- the class's count, each with those behind it -/
theorem loops_pr {xs : List mIt} {c : Int32 → Int32 → Prop} {dc : ∀ x y, Decidable (c x y)} : mlp (fun i acc => mlp (fun j (acc : Int32) => if c (xk xs i) (xk xs j) then acc + 1 else acc) (xs.length - (i + 1)) (i + 1) acc) (xs.length - 0) 0 (nI 0) = nI (pr (fun x y => decide (c x y)) xs) := by
  have h : ∀ (d s a : Nat), s + d = xs.length → mlp (fun i acc => mlp (fun j (acc : Int32) => if c (xk xs i) (xk xs j) then acc + 1 else acc) (xs.length - (i + 1)) (i + 1) acc) d s (nI a) = nI (a + pr (fun x y => decide (c x y)) (xs.drop s)) := by
    intro d
    induction d with
    | zero => intro s a h; rw [List.drop_eq_nil_of_le (by omega)]; rfl
    | succ d ih =>
      intro s a h
      show mlp _ d (s + 1) (mlp (fun j (acc : Int32) => if c (xk xs s) (xk xs j) then acc + 1 else acc) (xs.length - (s + 1)) (s + 1) (nI a)) = _
      rw [mlp_nI (c := fun j => c (xk xs s) (xk xs j)), ih (s + 1) _ (by omega), drop_it (s := s) (by omega)]
      refine congrArg nI ?_
      show _ = a + (List.countP _ (xs.drop (s + 1)) + pr _ (xs.drop (s + 1)))
      rw [← range_it (xs.length - (s + 1)) (s + 1) (by omega), List.countP_map]
      rw [range_it (xs.length - (s + 1)) (s + 1) (by omega)]
      exact Nat.add_assoc _ _ _
  have h0 := h (xs.length - 0) 0 0 (by omega)
  rw [h0, Nat.zero_add, List.drop_zero]
def cW (x y : Int32) : Bool := decide (y < x)
theorem wrong_pr {xs : List mIt} : mq_pairs xs (nI 1) = nI (pr cW xs) := by
  rw [pairs_pr, pr_congr (fun x y => show decide (sideF x y = nI 1) = cW x y from by unfold cW; exact decide_eq_decide.mpr side_1)]
theorem wrongQ_pr {xs : List mIt} : q_wrongPairs xs = nI (pr cW xs) := loops_pr (c := fun x y => y < x) (dc := fun _ _ => inferInstance)
def kSorted (l : List mIt) : Prop := l.Pairwise (fun a b => ¬ b.1 < a.1)
theorem kSorted.zero {l : List mIt} (h : kSorted l) : pr cW l = 0 := by
  induction l with
  | nil => rfl
  | cons a l ih =>
    obtain ⟨h1, h2⟩ := List.pairwise_cons.mp h
    show List.countP _ l + pr cW l = 0
    rw [ih h2, List.countP_eq_zero.mpr (fun b hb => by
      have := h1 b hb
      unfold cW
      simpa using this)]
theorem Bk.sorted {xs zs : List mIt} {s e : Nat} (h : Bk xs s e zs) : kSorted zs := by
  obtain ⟨B, rfl, hp, -⟩ := h
  unfold kSorted
  rw [List.pairwise_map]
  refine hp.imp (fun {a b} hab => ?_)
  rw [rl_iff] at hab
  show ¬ xk xs b < xk xs a
  rw [Int32.lt_iff_toInt_lt]
  omega
theorem winv_cr : ∀ {as bs : List mIt}, kSorted as → kSorted bs → winv as bs = nI (cr cW as bs)
  | [], bs, _, _ => by rw [show winv [] bs = 0 from by cases bs <;> simp [winv], cr_nil]; rfl
  | a :: as, [], _, _ => by
    rw [winv_nil]
    have : cr cW (a :: as) [] = 0 := by
      rw [cr_cons]
      show 0 + _ = 0
      have h : ∀ l : List mIt, cr cW l [] = 0 := fun l => by
        induction l with
        | nil => rfl
        | cons x l ih => rw [cr_cons, ih]; rfl
      rw [h as]
    rw [this]
    rfl
  | a :: as, b :: bs, ha, hb => by
    obtain ⟨a1, a2⟩ := List.pairwise_cons.mp ha
    obtain ⟨b1, b2⟩ := List.pairwise_cons.mp hb
    by_cases h : b.1 < a.1
    · rw [winv_r h, winv_cr ha b2, nI_add]
      refine congrArg nI ?_
      have e1 : cr cW (a :: as) (b :: bs) = cr cW (a :: as) [b] + cr cW (a :: as) bs := cr_appR (bs := [b])
      have e2 : ∀ l : List mIt, (∀ x ∈ l, b.1 < x.1) → cr cW l [b] = l.length := by
        intro l
        induction l with
        | nil => intro _; rfl
        | cons x l ih =>
          intro hx
          rw [cr_cons, ih (fun y hy => hx y (List.mem_cons_of_mem _ hy)), List.countP_singleton, if_pos (show cW x.1 b.1 = true from decide_eq_true (hx x List.mem_cons_self))]
          exact Nat.add_comm _ _
      rw [e1, e2 (a :: as) (fun x hx => by
        rcases List.mem_cons.mp hx with rfl | hx
        · exact h
        · have h3 := a1 x hx
          rw [Int32.lt_iff_toInt_lt] at h h3 ⊢
          omega)]
      rfl
    · rw [winv_l h, winv_cr a2 hb, cr_cons]
      refine congrArg nI ?_
      rw [List.countP_eq_zero.mpr (fun y hy => ?_), Nat.zero_add]
      have h4 : ¬ y.1 < a.1 := by
        rcases List.mem_cons.mp hy with rfl | hy
        · exact h
        · have h3 := b1 y hy
          rw [Int32.lt_iff_toInt_lt] at h h3 ⊢
          omega
      show ¬ cW a.1 y.1 = true
      unfold cW
      simpa using h4
theorem span_split {xs : List mIt} {s m e : Nat} (h1 : s ≤ m) (h2 : m ≤ e) (he : e ≤ xs.length) : span xs s e = span xs s m ++ span xs m e := by
  rw [span_map he (e - s) s (by omega), span_map (Nat.le_trans h2 he) (m - s) s (by omega), span_map he (e - m) m (by omega), ← List.map_append]
  refine congrArg (List.map (it xs)) ?_
  have h6 := List.range'_append_1 (s := s) (m := m - s) (n := e - m)
  rw [show s + (m - s) = m by omega, show m - s + (e - m) = e - s by omega] at h6
  exact h6.symm
theorem mpass_pr {ys : List mIt} {wd : Nat} (hw : 0 < wd) (hb : ∀ s, s < ys.length → wd ∣ s → kSorted (span ys s (min (s + wd) ys.length))) : ∀ (d s a : Nat) (p : List mIt × Int32), ys.length ≤ s + d → 2 * wd ∣ s → p.2 = nI a → ∃ a', (mpass ys wd d s p).2 = nI a' ∧ a' + pr cW (mpass ys wd d s p).1 = a + pr cW (p.1 ++ span ys (min s ys.length) ys.length) := by
  intro d
  induction d with
  | zero =>
    intro s a p h _ hp
    refine ⟨a, hp, ?_⟩
    rw [show min s ys.length = ys.length by omega]
    unfold span
    rw [List.drop_eq_nil_of_le (by rw [List.length_take]; omega), List.append_nil]
    rfl
  | succ d ih =>
    intro s a p h hd hp
    by_cases hs : s < ys.length
    · rw [mpass, if_pos hs]
      have d1 : wd ∣ s := Nat.dvd_trans ⟨2, Nat.mul_comm 2 wd⟩ hd
      have k1 := hb s hs d1
      have k2 : kSorted (span ys (min (s + wd) ys.length) (min (s + 2 * wd) ys.length)) := by
        by_cases e : s + wd < ys.length
        · have := hb (s + wd) e (Nat.dvd_add d1 (Nat.dvd_refl _))
          rw [Nat.min_eq_left (show s + wd ≤ ys.length by omega), show s + 2 * wd = s + wd + wd by omega]
          exact this
        · rw [Nat.min_eq_right (by omega), Nat.min_eq_right (by omega)]
          unfold span
          rw [List.drop_eq_nil_of_le (by rw [List.length_take]; omega)]
          exact List.Pairwise.nil
      have hwi := winv_cr k1 k2
      obtain ⟨a', r1, r2⟩ := ih (s + 2 * wd) (a + cr cW (span ys s (min (s + wd) ys.length)) (span ys (min (s + wd) ys.length) (min (s + 2 * wd) ys.length))) (p.1 ++ List.merge (span ys s (min (s + wd) ys.length)) (span ys (min (s + wd) ys.length) (min (s + 2 * wd) ys.length)) wle, p.2 + winv (span ys s (min (s + wd) ys.length)) (span ys (min (s + wd) ys.length) (min (s + 2 * wd) ys.length))) (by omega) (Nat.dvd_add hd (Nat.dvd_refl _)) (by rw [hp, hwi, nI_add])
      refine ⟨a', r1, r2.trans ?_⟩
      have e0 : span ys (min s ys.length) ys.length = span ys s (min (s + wd) ys.length) ++ (span ys (min (s + wd) ys.length) (min (s + 2 * wd) ys.length) ++ span ys (min (s + 2 * wd) ys.length) ys.length) := by
        rw [Nat.min_eq_left (Nat.le_of_lt hs), ← span_split (by omega) (by omega) (Nat.le_refl _), ← span_split (by omega) (by omega) (Nat.le_refl _)]
      rw [e0]
      generalize span ys s (min (s + wd) ys.length) = A at *
      generalize span ys (min (s + wd) ys.length) (min (s + 2 * wd) ys.length) = B at *
      generalize span ys (min (s + 2 * wd) ys.length) ys.length = T
      have pm : (List.merge A B wle).Perm (A ++ B) := List.merge_perm_append wle
      have sm : kSorted (List.merge A B wle) := by
        unfold kSorted at k1 k2 ⊢
        have t1 : ∀ a b c : mIt, wle a b = true → wle b c = true → wle a c = true := by
          intro a b c
          unfold wle
          rw [Bool.not_eq_true', Bool.not_eq_true', Bool.not_eq_true', decide_eq_false_iff_not, decide_eq_false_iff_not, decide_eq_false_iff_not, Int32.lt_iff_toInt_lt, Int32.lt_iff_toInt_lt, Int32.lt_iff_toInt_lt]
          omega
        have t2 : ∀ a b : mIt, (wle a b || wle b a) = true := by
          intro a b
          unfold wle
          rw [Bool.or_eq_true, Bool.not_eq_true', Bool.not_eq_true', decide_eq_false_iff_not, decide_eq_false_iff_not, Int32.lt_iff_toInt_lt, Int32.lt_iff_toInt_lt]
          omega
        have cv : ∀ a b : mIt, (¬ b.1 < a.1) ↔ wle a b = true := by
          intro a b
          unfold wle
          rw [Bool.not_eq_true', decide_eq_false_iff_not]
        exact (List.pairwise_merge t1 t2 A B (k1.imp (fun {a b} q => (cv a b).mp q)) (k2.imp (fun {a b} q => (cv a b).mp q))).imp (fun {a b} q => (cv a b).mpr q)
      dsimp only
      rw [pr_app, pr_app, pr_app, pr_app, pr_app, cr_app, cr_appR, cr_appR, cr_appR, sm.zero, k1.zero, k2.zero, cr_permL pm, cr_permR pm, cr_app, cr_appR]
      omega
    · rw [mpass, if_neg hs]
      refine ⟨a, hp, ?_⟩
      rw [show min s ys.length = ys.length by omega]
      unfold span
      rw [List.drop_eq_nil_of_le (by rw [List.length_take]; omega), List.append_nil]
theorem msrt_pr {xs : List mIt} : ∀ (d wd a : Nat) (p : List mIt × Int32), 0 < wd → xs.length ≤ wd + d → Blk xs wd p.1 → p.2 = nI a → (msrt d wd p).2 = nI (a + pr cW p.1) := by
  intro d
  induction d with
  | zero =>
    intro wd a p hw h hb hp
    show p.2 = _
    rw [(hb.all (by omega)).sorted.zero, hp, Nat.add_zero]
  | succ d ih =>
    intro wd a p hw h hb hp
    rw [msrt]
    by_cases q : wd < p.1.length
    · rw [if_pos q]
      obtain ⟨a', r1, r2⟩ := mpass_pr (ys := p.1) hw (fun s hs hd => by
        have := hb.2 s (by have := hb.1; omega) hd
        rw [← hb.1] at this
        exact this.sorted) p.1.length 0 0 ([], nI 0) (by omega) ⟨0, rfl⟩ rfl
      rw [Nat.zero_min, span_all, List.nil_append, Nat.zero_add] at r2
      refine (ih (wd * 2) (a + a') ((mround p.1 wd).1, p.2 + (mround p.1 wd).2) (by omega) (by omega) (hb.round hw) ?_).trans ?_
      · show p.2 + (mround p.1 wd).2 = _
        rw [hp, show (mround p.1 wd).2 = nI a' from r1, nI_add]
      · refine congrArg nI ?_
        rw [← r2]
        show a + a' + pr cW (mround p.1 wd).1 = a + (a' + pr cW (mround p.1 wd).1)
        omega
    · rw [if_neg q]
      show p.2 = _
      rw [(hb.all (by have := hb.1; omega)).sorted.zero, hp, Nat.add_zero]
theorem blk_1 {xs : List mIt} : Blk xs 1 xs := by
  refine ⟨rfl, fun s hs _ => ?_⟩
  rw [Nat.min_eq_left (by omega)]
  rw [span_map (by omega) 1 s rfl]
  exact ⟨[s], rfl, List.pairwise_singleton _ _, by rw [show s + 1 - s = 1 by omega]; exact List.Perm.refl _⟩
/-- what sorting tells: the pairs that stood wrong -/
theorem msort_wrong {xs : List mIt} : (msort xs).2 = mq_pairs xs (nI 1) := by
  rw [wrong_pr]
  refine (msrt_pr (xs := xs) xs.length 1 0 (xs, nI 0) (by decide) (by omega) blk_1 rfl).trans ?_
  rw [Nat.zero_add]
theorem swp_split {xs : List mIt} {p : Nat} (hp : p + 1 < xs.length) : xs = xs.take p ++ (it xs p :: it xs (p + 1) :: xs.drop (p + 2)) ∧ swp xs p (p + 1) = xs.take p ++ (it xs (p + 1) :: it xs p :: xs.drop (p + 2)) := by
  have e1 : xs = xs.take p ++ (it xs p :: it xs (p + 1) :: xs.drop (p + 2)) := by
    rw [← drop_it hp, ← drop_it (by omega), List.take_append_drop]
  refine ⟨e1, ?_⟩
  have hl : (xs.take p).length = p := by rw [List.length_take]; omega
  refine xs_ext (by rw [swp_len, List.length_append, List.length_cons, List.length_cons, List.length_drop, hl]; omega) (fun i hi => ?_)
  rw [swp_len] at hi
  have hsw : it (swp xs p (p + 1)) i = if i = p + 1 then it xs p else if i = p then it xs (p + 1) else it xs i := by
    unfold it swp
    rw [xk_put (by rw [List.length_set]; exact hp), xt_put (by rw [List.length_set]; exact hp)]
    split
    · rfl
    · rw [xk_put (by omega), xt_put (by omega)]
      split
      · rfl
      · rfl
  rw [hsw]
  by_cases h1 : i < p
  · rw [if_neg (by omega), if_neg (by omega), it_app_lt (by omega)]
    conv => lhs; rw [e1]
    rw [it_app_lt (by omega)]
  · rw [it_app_ge (by omega), hl]
    by_cases h2 : i = p
    · subst h2
      rw [if_neg (by omega), if_pos rfl, Nat.sub_self]
      rfl
    · by_cases h3 : i = p + 1
      · subst h3
        rw [if_pos rfl, show p + 1 - p = 1 by omega]
        rfl
      · rw [if_neg h3, if_neg h2]
        conv => lhs; rw [e1]
        rw [it_app_ge (by omega), hl, show i - p = (i - p - 2) + 1 + 1 by omega]
        rfl
theorem exch_eq {xs : List mIt} {p : Nat} (hp : p + 1 < xs.length) : mq_pairs (swp xs p (p + 1)) (nI 1) - mq_pairs xs (nI 1) = q_wrongerByExchange xs p := by
  obtain ⟨e1, e2⟩ := swp_split hp
  rw [wrong_pr, wrong_pr, e2]
  have hx : pr cW xs = pr cW (xs.take p ++ (it xs p :: it xs (p + 1) :: xs.drop (p + 2))) := congrArg (pr cW) e1
  rw [hx]
  have hpm : cr cW (xs.take p) (it xs (p + 1) :: it xs p :: xs.drop (p + 2)) = cr cW (xs.take p) (it xs p :: it xs (p + 1) :: xs.drop (p + 2)) := cr_permR (List.Perm.swap _ _ _)
  rw [pr_app, pr_app, hpm]
  have f1 : pr cW (it xs (p + 1) :: it xs p :: xs.drop (p + 2)) = ((if cW (xk xs (p + 1)) (xk xs p) = true then 1 else 0) + (xs.drop (p + 2)).countP (fun b => cW (xk xs (p + 1)) b.1)) + ((xs.drop (p + 2)).countP (fun b => cW (xk xs p) b.1) + pr cW (xs.drop (p + 2))) := by
    show List.countP _ (it xs p :: xs.drop (p + 2)) + (_ + _) = _
    rw [List.countP_cons]
    show List.countP (fun b => cW (xk xs (p + 1)) b.1) (xs.drop (p + 2)) + (if cW (xk xs (p + 1)) (xk xs p) = true then 1 else 0) + (List.countP (fun b => cW (xk xs p) b.1) (xs.drop (p + 2)) + pr cW (xs.drop (p + 2))) = _
    omega
  have f2 : pr cW (it xs p :: it xs (p + 1) :: xs.drop (p + 2)) = ((if cW (xk xs p) (xk xs (p + 1)) = true then 1 else 0) + (xs.drop (p + 2)).countP (fun b => cW (xk xs p) b.1)) + ((xs.drop (p + 2)).countP (fun b => cW (xk xs (p + 1)) b.1) + pr cW (xs.drop (p + 2))) := by
    show List.countP _ (it xs (p + 1) :: xs.drop (p + 2)) + (_ + _) = _
    rw [List.countP_cons]
    show List.countP (fun b => cW (xk xs p) b.1) (xs.drop (p + 2)) + (if cW (xk xs p) (xk xs (p + 1)) = true then 1 else 0) + (List.countP (fun b => cW (xk xs (p + 1)) b.1) (xs.drop (p + 2)) + pr cW (xs.drop (p + 2))) = _
    omega
  rw [f1, f2]
  generalize (xs.drop (p + 2)).countP (fun b => cW (xk xs p) b.1) = u
  generalize (xs.drop (p + 2)).countP (fun b => cW (xk xs (p + 1)) b.1) = v
  generalize pr cW (xs.drop (p + 2)) = w
  generalize pr cW (xs.take p) = t
  generalize cr cW (xs.take p) (it xs p :: it xs (p + 1) :: xs.drop (p + 2)) = z
  unfold q_wrongerByExchange cW
  by_cases h1 : xk xs p = xk xs (p + 1)
  · rw [if_pos h1, if_neg (by simp only [decide_eq_true_eq]; rw [h1, Int32.lt_iff_toInt_lt]; omega), if_neg (by simp only [decide_eq_true_eq]; rw [h1, Int32.lt_iff_toInt_lt]; omega), show t + (0 + v + (u + w)) + z = t + (0 + u + (v + w)) + z by omega, Int32.sub_self]
    rfl
  · rw [if_neg h1]
    by_cases h2 : xk xs p < xk xs (p + 1)
    · rw [if_pos h2, if_pos (by simpa using h2), if_neg (by simp only [decide_eq_true_eq]; rw [Int32.lt_iff_toInt_lt] at h2 ⊢; omega), show t + (1 + v + (u + w)) + z = (t + (0 + u + (v + w)) + z) + 1 by omega, ← nI_1, Int32.add_comm, Int32.add_sub_cancel]
      rfl
    · have h3 : xk xs (p + 1) < xk xs p := by rw [Int32.lt_iff_toInt_lt] at h2 ⊢; rw [← Int32.toInt_inj] at h1; omega
      rw [if_neg h2, if_neg (by simpa using h2), if_pos (by simpa using h3), show t + (1 + u + (v + w)) + z = (t + (0 + v + (u + w)) + z) + 1 by omega]
      generalize t + (0 + v + (u + w)) + z = q
      rw [← nI_1, Int32.sub_eq_add_neg, Int32.neg_add, Int32.sub_eq_add_neg, ← Int32.add_assoc, Int32.add_right_neg, Int32.zero_add]
theorem mlp_app {α : Type} {f : Nat → α → α} : ∀ (d e s : Nat) (a : α), mlp f (d + e) s a = mlp f e (s + d) (mlp f d s a) := by
  intro d
  induction d with
  | zero => intro e s a; rw [Nat.zero_add]; rfl
  | succ d ih =>
    intro e s a
    rw [show d + 1 + e = (d + e) + 1 by omega]
    show mlp f (d + e) (s + 1) (f s a) = _
    rw [ih, show s + 1 + d = s + (d + 1) by omega]
    rfl
theorem pr_zero {c : Int32 → Int32 → Bool} {xs : List mIt} : pr c xs = 0 ↔ xs.Pairwise (fun a b => c a.1 b.1 = false) := by
  induction xs with
  | nil => exact ⟨fun _ => List.Pairwise.nil, fun _ => rfl⟩
  | cons a l ih =>
    rw [List.pairwise_cons, ← ih]
    show List.countP _ l + pr c l = 0 ↔ _
    rw [Nat.add_eq_zero_iff, List.countP_eq_zero]
    constructor
    · rintro ⟨h1, h2⟩
      exact ⟨fun b hb => by have := h1 b hb; simpa using this, h2⟩
    · rintro ⟨h1, h2⟩
      exact ⟨fun b hb => by rw [h1 b hb]; decide, h2⟩
theorem pairwise_it {xs : List mIt} {R : mIt → mIt → Prop} : xs.Pairwise R ↔ ∀ i j, i < j → j < xs.length → R (it xs i) (it xs j) := by
  rw [List.pairwise_iff_getElem]
  constructor
  · intro h i j hij hj
    have := h i j (by omega) hj hij
    rw [xk_get (by omega), xk_get hj] at this
    exact this
  · intro h i j hi hj hij
    rw [xk_get hi, xk_get hj]
    exact h i j hij hj
theorem falls_iff {xs : List mIt} : q_fallsThroughout xs = true ↔ ∀ i j, i < j → j < xs.length → xk xs j < xk xs i := by
  unfold q_fallsThroughout
  rw [mall_all]
  constructor
  · intro h i j hij
    induction j with
    | zero => omega
    | succ j ih =>
      intro hj
      have h1 := h (j + 1) (by omega) (by omega)
      rw [decide_eq_true_iff, Nat.add_sub_cancel, Int32.lt_iff_toInt_lt] at h1
      by_cases e : i = j
      · subst e; rw [Int32.lt_iff_toInt_lt]; exact h1
      · have h2 := ih (by omega) (by omega)
        rw [Int32.lt_iff_toInt_lt] at h2 ⊢
        omega
  · intro h j j1 j2
    rw [decide_eq_true_iff]
    exact h (j - 1) j (by omega) (by omega)
def cT (x y : Int32) : Bool := decide (x = y)
theorem cr_one {c : Int32 → Int32 → Bool} {x : mIt} : ∀ {as : List mIt}, cr c as [x] = as.countP (fun a => c a.1 x.1)
  | [] => rfl
  | a :: as => by
    rw [cr_cons, cr_one, List.countP_singleton, List.countP_cons]
    omega
theorem pr_snoc {c : Int32 → Int32 → Bool} {l : List mIt} {x : mIt} : pr c (l ++ [x]) = pr c l + l.countP (fun a => c a.1 x.1) := by
  rw [pr_app, cr_one]
  show _ + (0 + 0) + _ = _
  omega
theorem msort_perm {xs : List mIt} : (msort xs).1.Perm xs := by
  obtain ⟨B, e, -, q⟩ := @msort_bk xs
  rw [e]
  have h := q.map (it xs)
  rw [Nat.sub_zero, take_range (Nat.le_refl _), List.take_length] at h
  exact h
theorem ties_go {ys : List mIt} (hs : kSorted ys) : ∀ (d s a b : Nat), 1 ≤ s → s + d = ys.length → a = pr cT (ys.take s) → b = (ys.take (s - 1)).countP (fun z => cT z.1 (xk ys (s - 1))) → (mlp (fun i (p : Int32 × Int32) => let al := if xk ys i = xk ys (i - 1) then p.2 + 1 else 0; (p.1 + al, al)) d s (nI a, nI b)).1 = nI (pr cT ys) := by
  intro d
  induction d with
  | zero =>
    intro s a b _ h ha _
    rw [ha, List.take_of_length_le (by omega)]
    rfl
  | succ d ih =>
    intro s a b h1 h ha hb
    obtain ⟨s, rfl⟩ : ∃ t, s = t + 1 := ⟨s - 1, by omega⟩
    rw [Nat.add_sub_cancel] at hb
    have ho := pairwise_it.mp hs
    have ht : ys.take (s + 1) = ys.take s ++ [it ys s] := take_it (by omega)
    have key : (if xk ys (s + 1) = xk ys s then nI b + 1 else 0) = nI ((ys.take (s + 1)).countP (fun z => cT z.1 (xk ys (s + 1)))) := by
      rw [ht, List.countP_append, List.countP_singleton]
      by_cases e : xk ys (s + 1) = xk ys s
      · rw [if_pos e, e, if_pos (show cT (it ys s).1 (xk ys s) = true from decide_eq_true rfl), ← hb, nI_1]
      · rw [if_neg e, if_neg (show ¬ cT (it ys s).1 (xk ys (s + 1)) = true from fun z => e (of_decide_eq_true z).symm), List.countP_eq_zero.mpr (fun z hz => ?_)]
        · rfl
        · obtain ⟨j, hj, rfl⟩ := List.getElem_of_mem hz
          rw [List.length_take] at hj
          rw [List.getElem_take, xk_get (by omega)]
          intro w
          have w2 : xk ys j = xk ys (s + 1) := of_decide_eq_true w
          have o1 : ¬ xk ys s < xk ys j := ho j s (by omega) (by omega)
          have o2 : ¬ xk ys (s + 1) < xk ys s := ho s (s + 1) (by omega) (by omega)
          rw [Int32.lt_iff_toInt_lt] at o1 o2
          rw [← Int32.toInt_inj] at e w2
          omega
    show (mlp _ d (s + 1 + 1) (nI a + (if xk ys (s + 1) = xk ys (s + 1 - 1) then nI b + 1 else 0), (if xk ys (s + 1) = xk ys (s + 1 - 1) then nI b + 1 else 0))).1 = _
    rw [Nat.add_sub_cancel, key, nI_add]
    refine ih (s + 1 + 1) _ _ (by omega) (by omega) ?_ (by rw [Nat.add_sub_cancel])
    rw [take_it (show s + 1 < ys.length by omega), pr_snoc, ← ha]
    rfl
theorem ties_sorted {ys : List mIt} (hs : kSorted ys) : q_tiedPairsOfSorted ys = nI (pr cT ys) := by
  unfold q_tiedPairsOfSorted
  rcases Nat.eq_zero_or_pos ys.length with e | e
  · rw [List.eq_nil_of_length_eq_zero e]
    rfl
  · refine ties_go hs (ys.length - 1) 1 0 0 (Nat.le_refl _) (by omega) ?_ ?_
    · rw [take_it e, List.take_zero]
      rfl
    · rfl
theorem cT_comm (x y : Int32) : cT x y = cT y x := decide_eq_decide.mpr ⟨Eq.symm, Eq.symm⟩
theorem ties_pr {xs : List mIt} : q_tiedPairsOfSorted (msort xs).1 = nI (pr cT xs) := by rw [ties_sorted msort_bk.sorted, pr_perm cT_comm msort_perm]
def desc (xs : List mIt) (j : Nat) : Prop := xk xs j < xk xs (j - 1)
theorem erun_spec {xs : List mIt} : ∀ (d e : Nat), (∀ j, e ≤ j → j < erun xs d e → ¬ desc xs j) ∧ (erun xs d e < e + d → desc xs (erun xs d e)) := by
  intro d
  induction d with
  | zero => intro e; exact ⟨fun j h1 h2 => absurd h2 (by show ¬ j < e; omega), fun h => absurd h (by show ¬ e < e + 0; omega)⟩
  | succ d ih =>
    intro e
    by_cases h : xk xs e < xk xs (e - 1)
    · have e1 : erun xs (d + 1) e = e := if_pos h
      rw [e1]
      exact ⟨fun j h1 h2 => absurd h2 (by omega), fun _ => h⟩
    · have e1 : erun xs (d + 1) e = erun xs d (e + 1) := if_neg h
      rw [e1]
      obtain ⟨i1, i2⟩ := ih (e + 1)
      refine ⟨fun j h1 h2 => ?_, fun z => i2 (by omega)⟩
      by_cases f : j = e
      · rw [f]; exact h
      · exact i1 j (by omega) h2
theorem eor {xs : List mIt} {i : Nat} (hi : i < xs.length) : i + 1 ≤ q_endOfRun xs i ∧ q_endOfRun xs i ≤ xs.length ∧ (∀ j, i < j → j < q_endOfRun xs i → ¬ desc xs j) ∧ (q_endOfRun xs i < xs.length → desc xs (q_endOfRun xs i)) := by
  have h1 := @erun_le xs (xs.length - (i + 1)) (i + 1)
  obtain ⟨h2, h3⟩ := @erun_spec xs (xs.length - (i + 1)) (i + 1)
  unfold q_endOfRun
  exact ⟨h1.1, by omega, fun j j1 j2 => h2 j (by omega) j2, fun z => h3 (by omega)⟩
theorem eor_in {xs : List mIt} {k j : Nat} (hk : k < xs.length) (h1 : k ≤ j) (h2 : j < q_endOfRun xs k) : q_endOfRun xs j = q_endOfRun xs k := by
  obtain ⟨a1, a2, a3, a4⟩ := eor hk
  obtain ⟨b1, b2, b3, b4⟩ := eor (show j < xs.length by omega)
  rcases Nat.lt_trichotomy (q_endOfRun xs j) (q_endOfRun xs k) with h | h | h
  · exact absurd (b4 (by omega)) (a3 _ (by omega) h)
  · exact h
  · exact absurd (a4 (by omega)) (b3 _ h2 h)
def lgR (xs : List mIt) (i : Nat) (p : Int32 × Int32) : Int32 × Int32 := let run := if 0 < i ∧ xk xs i < xk xs (i - 1) then 1 else p.2 + 1; (if p.1 < run then run else p.1, run)
theorem lgR_s {xs : List mIt} {i b m u : Nat} (hm : m < 2 ^ 30) (hu : u < 2 ^ 30) (hr : u = if 0 < i ∧ xk xs i < xk xs (i - 1) then 1 else b + 1) : lgR xs i (nI m, nI b) = (nI (max m u), nI u) := by
  have e : (if 0 < i ∧ xk xs i < xk xs (i - 1) then (1 : Int32) else nI b + 1) = nI u := by
    rw [hr]
    split
    · rfl
    · exact nI_1 b
  unfold lgR
  dsimp only
  rw [e]
  by_cases h : m < u
  · rw [if_pos (nI_lt h (by omega)), Nat.max_eq_right (by omega)]
  · rw [if_neg (nI_nlt (by omega) (by omega)), Nat.max_eq_left (by omega)]
theorem longest_go {xs : List mIt} (hL : xs.length < 2 ^ 29) : ∀ (N k m b : Nat), xs.length - k < N → k ≤ xs.length → m ≤ xs.length → b ≤ xs.length → ((k = 0 ∧ b = 0) ∨ k = xs.length ∨ (0 < k ∧ desc xs k)) → (mlp (lgR xs) (xs.length - k) k (nI m, nI b)).1 = nI (mlp (lgS xs) (xs.length - k) k m) := by
  intro N
  induction N with
  | zero => intro k m b h; exact absurd h (Nat.not_lt_zero _)
  | succ N ih =>
    intro k m b hN hk hm hb hd
    by_cases q : k < xs.length
    · obtain ⟨a1, a2, a3, a4⟩ := eor q
      have f1 : ∀ (t u m9 : Nat), u = t + 1 → k + u ≤ q_endOfRun xs k → m9 ≤ xs.length → mlp (lgR xs) (u) k (nI m9, nI b) = (nI (max m9 u), nI u) := by
        intro t
        induction t with
        | zero =>
          intro u m9 hu h2 hm9
          subst hu
          show lgR xs k (nI m9, nI b) = _
          refine lgR_s (by omega) (by omega) ?_
          rcases hd with ⟨z1, z2⟩ | z | ⟨z1, z2⟩
          · rw [if_neg (by omega), z2]
          · omega
          · rw [if_pos ⟨z1, z2⟩]
        | succ t ih2 =>
          intro u m9 hu h2 hm9
          subst hu
          rw [mlp_app (t + 1) 1 k, ih2 (t + 1) m9 rfl (by omega) hm9]
          show lgR xs (k + (t + 1)) (nI (max m9 (t + 1)), nI (t + 1)) = _
          rw [lgR_s (u := t + 1 + 1) (by omega) (by omega) (by rw [if_neg (fun z => a3 _ (by omega) (by omega) z.2)])]
          rw [show max (max m9 (t + 1)) (t + 1 + 1) = max m9 (t + 1 + 1) by omega]
      have f2 : ∀ (t m9 : Nat), t < q_endOfRun xs k - k → mlp (lgS xs) (t + 1) k m9 = max m9 (q_endOfRun xs k - k) := by
        intro t
        induction t with
        | zero => intro m9 _; rfl
        | succ t ih2 =>
          intro m9 ht
          rw [mlp_app (t + 1) 1 k, ih2 m9 (by omega)]
          show max (max m9 (q_endOfRun xs k - k)) (q_endOfRun xs (k + (t + 1)) - (k + (t + 1))) = _
          rw [eor_in (j := k + (t + 1)) q (by omega) (by omega)]
          omega
      have hw : xs.length - k = (q_endOfRun xs k - k) + (xs.length - q_endOfRun xs k) := by omega
      rw [hw, mlp_app, mlp_app, show k + (q_endOfRun xs k - k) = q_endOfRun xs k by omega]
      rw [f1 (q_endOfRun xs k - k - 1) (q_endOfRun xs k - k) m (by omega) (by omega) hm]
      have g2 := f2 (q_endOfRun xs k - k - 1) m (by omega)
      rw [show q_endOfRun xs k - k - 1 + 1 = q_endOfRun xs k - k by omega] at g2
      rw [g2]
      refine ih (q_endOfRun xs k) _ _ (by omega) a2 (by omega) (by omega) ?_
      by_cases z : q_endOfRun xs k < xs.length
      · exact Or.inr (Or.inr ⟨by omega, a4 z⟩)
      · exact Or.inr (Or.inl (by omega))
    · rw [show xs.length - k = 0 by omega]
      rfl
theorem longest_eq {xs : List mIt} (hL : xs.length ≤ 320) : nI (mlp (lgS xs) (xs.length - 0) 0 0) = q_longestRun xs :=
  (longest_go (by omega) (xs.length - 0 + 1) 0 0 0 (Nat.lt_succ_self _) (Nat.zero_le _) (Nat.zero_le _) (Nat.zero_le _) (Or.inl ⟨rfl, rfl⟩)).symm
theorem ranks_ok {xs : List mIt} : q_standsByRanksIn xs (msort xs).1 = true := by
  unfold q_standsByRanksIn
  rw [mall_all]
  intro i _ hi
  obtain ⟨P, e, hp, hq⟩ := @msort_bk xs
  rw [Nat.sub_zero] at hq
  have hl : P.length = xs.length := by rw [hq.length_eq, List.length_range']
  have hk : i ∈ P := hq.mem_iff.mpr (List.mem_range'_1.mpr ⟨Nat.zero_le _, by omega⟩)
  obtain ⟨j, hj, rfl⟩ := List.getElem_of_mem hk
  rw [decide_eq_true_iff, rank_at hp hq hj, msort_len]
  have h9 : it (msort xs).1 j = it xs P[j] := by
    have h8 : (msort xs).1[j]'(by rw [msort_len]; omega) = it xs P[j] := by simp only [e, List.getElem_map]
    rw [← h8, xk_get]
    rfl
  exact ⟨by omega, congrArg Prod.fst h9, congrArg Prod.snd h9⟩
theorem pr_tri {xs : List mIt} : 2 * (pr cW xs + pr (fun x y => decide (x < y)) xs + pr cT xs) = xs.length * (xs.length - 1) := by
  induction xs with
  | nil => rfl
  | cons a l ih =>
    have h : l.countP (fun b => cW a.1 b.1) + l.countP (fun b => decide (a.1 < b.1)) + l.countP (fun b => cT a.1 b.1) = l.length := by
      clear ih
      induction l with
      | nil => rfl
      | cons b l ih2 =>
        rw [List.countP_cons, List.countP_cons, List.countP_cons, List.length_cons]
        have h1 : (if cW a.1 b.1 = true then 1 else 0) + (if decide (a.1 < b.1) = true then 1 else 0) + (if cT a.1 b.1 = true then 1 else 0) = 1 := by
          unfold cW cT
          simp only [decide_eq_true_eq, Int32.lt_iff_toInt_lt, ← Int32.toInt_inj]
          rcases Int.lt_trichotomy a.1.toInt b.1.toInt with z | z | z
          · rw [if_neg (by omega), if_pos z, if_neg (by omega)]
          · rw [if_neg (by omega), if_neg (by omega), if_pos z]
          · rw [if_pos z, if_neg (by omega), if_neg (by omega)]
        omega
    show 2 * ((l.countP (fun b => cW a.1 b.1) + pr cW l) + (l.countP (fun b => decide (a.1 < b.1)) + pr _ l) + (l.countP (fun b => cT a.1 b.1) + pr cT l)) = (l.length + 1) * (l.length + 1 - 1)
    rw [Nat.add_sub_cancel, Nat.add_mul, Nat.one_mul]
    have h2 : l.length * (l.length - 1) + l.length = l.length * l.length := by
      rcases l.length with _ | n
      · rfl
      · rw [Nat.add_sub_cancel, Nat.mul_succ]
    omega
theorem right_pr {xs : List mIt} : q_rightPairs xs = nI (pr (fun x y => decide (x < y)) xs) := loops_pr (c := fun x y => x < y) (dc := fun _ _ => inferInstance)
theorem row_sound {xs : List mIt} (hL : xs.length ≤ 320) : q_rowSound xs = true := by
  unfold q_rowSound
  rw [Bool.and_eq_true, Bool.and_eq_true, Bool.and_eq_true]
  refine ⟨⟨⟨?_, ?_⟩, ?_⟩, ranks_ok⟩
  · rw [decide_eq_true_iff, msort_wrong, wrong_pr, wrongQ_pr]
  · rw [beq_iff_eq, msort_wrong]
    rw [Bool.eq_iff_iff, decide_eq_true_iff]
    exact wrong_0 hL
  · rw [decide_eq_true_iff, msort_wrong, wrong_pr, right_pr, ties_pr, nI_add, nI_add]
    have h := @pr_tri xs
    have hb : xs.length * (xs.length - 1) ≤ 320 * 320 := Nat.mul_le_mul hL (by omega)
    rcases Nat.eq_zero_or_pos xs.length with e | e
    · rw [List.eq_nil_of_length_eq_zero e]
      decide
    · obtain ⟨n, hn⟩ : ∃ n, xs.length = n + 1 := ⟨xs.length - 1, by omega⟩
      rw [hn, nI_pred, mI_mul, pk_div (by rw [hn, Nat.add_sub_cancel] at hb; omega) (by decide) (by decide)]
      refine congrArg nI ?_
      rw [hn, Nat.add_sub_cancel] at h
      omega
theorem other_self {xs : List mIt} : q_otherItems xs xs = 0 := by
  unfold q_otherItems
  have h : ∀ (d s : Nat), mlp (fun i (acc : Int32) => if xk xs i = xk xs i ∧ xt xs i = xt xs i then acc else acc + 1) d s (nI 0) = nI 0 := by
    intro d
    induction d with
    | zero => intro s; rfl
    | succ d ih => intro s; show mlp _ d (s + 1) (if _ then _ else _) = _; rw [if_pos ⟨rfl, rfl⟩]; exact ih _
  exact h _ _
theorem weave_sound {xs ys : List mIt} {room : Nat} : q_weaveSound xs ys room = true := by
  unfold q_weaveSound
  cases h1 : q_isRising xs with
  | false => rfl
  | true =>
    cases h2 : q_isRising ys with
    | false => rfl
    | true =>
      have r1 := rising_iff.mp h1
      have r2 := rising_iff.mp h2
      have w := weave_scat (xs := xs ++ ys) (m := xs.length) (by rw [List.length_append]; omega) (fun i j hij hj => by
        rw [xk_app_lt hj, xk_app_lt (show i < xs.length by omega)]
        exact r1 i j hij hj) (fun i j hi hij hj => by
        rw [List.length_append] at hj
        rw [show xk (xs ++ ys) j = xk ys (j - xs.length) from congrArg Prod.fst (it_app_ge (by omega)), show xk (xs ++ ys) i = xk ys (i - xs.length) from congrArg Prod.fst (it_app_ge hi)]
        exact r2 _ _ (by omega) (by omega))
      rw [msort_scat] at w
      rw [span_all, ← w, other_self, decide_eq_true rfl, decide_eq_true rfl, Bool.and_self, Bool.or_true]
theorem sound_eq {h : mH} {S : cS} (C : cAt h S) : q_sound S = true := by
  have hS : lenOk S := fun r hr => (C.2.2.2.1 r hr).len.1
  unfold q_sound
  rw [Bool.and_eq_true, mall_all]
  exact ⟨fun j _ hj => row_sound (hS.le (by omega)), weave_sound⟩

theorem keys_mem {xs : List mIt} {x : Int32} : (∃ i, i < xs.length ∧ xk xs i = x) ↔ x ∈ xs.map Prod.fst := by
  rw [List.mem_map]
  constructor
  · rintro ⟨i, hi, rfl⟩
    exact ⟨xs[i], List.getElem_mem hi, by rw [xk_get hi]⟩
  · rintro ⟨z, hz, rfl⟩
    obtain ⟨i, hi, rfl⟩ := List.getElem_of_mem hz
    exact ⟨i, hi, by rw [xk_get hi]⟩
/-- k is the least of the commonest keys of the first s items -/
def isMost (xs : List mIt) (c : Int32 → Nat) (s : Nat) (k : Int32) (m : Nat) : Prop := c k = m ∧ (∃ i, i < s ∧ xk xs i = k) ∧ ∀ i, i < s → c (xk xs i) ≤ m ∧ (c (xk xs i) = m → ¬ xk xs i < k)
theorem isMost.uniq {xs ys : List mIt} {c : Int32 → Nat} {s t : Nat} {k k' : Int32} {m m' : Nat} (h1 : isMost xs c s k m) (h2 : isMost ys c t k' m') (hk : ∀ x, (∃ i, i < s ∧ xk xs i = x) ↔ ∃ i, i < t ∧ xk ys i = x) : k = k' := by
  obtain ⟨a1, a2, a3⟩ := h1
  obtain ⟨b1, b2, b3⟩ := h2
  obtain ⟨i, i1, i2⟩ := (hk k).mp a2
  obtain ⟨j, j1, j2⟩ := (hk k').mpr b2
  have c1 := b3 i i1
  have c2 := a3 j j1
  rw [i2] at c1
  rw [j2] at c2
  have d1 := c1.2 (by omega)
  have d2 := c2.2 (by omega)
  rw [Int32.lt_iff_toInt_lt] at d1 d2
  rw [← Int32.toInt_inj]
  omega
theorem other_0 {xs ys : List mIt} (hl : xs.length = ys.length) (hL : xs.length < 2 ^ 31) : q_otherKeys xs ys = 0 ↔ ∀ i, i < xs.length → xk xs i = xk ys i := by
  unfold q_otherKeys
  rw [← hl, Nat.min_self]
  have h : mlp (fun i (acc : Int32) => if xk xs i = xk ys i then acc else acc + 1) (xs.length - 0) 0 (nI 0) = nI (0 + (List.range' 0 (xs.length - 0)).countP (fun j => decide (¬ xk xs j = xk ys j))) := by
    rw [← mlp_nI (c := fun j => ¬ xk xs j = xk ys j)]
    refine mlp_congr (fun j b _ _ => ?_)
    by_cases e : xk xs j = xk ys j
    · rw [if_pos e, if_neg (fun z => z e)]
    · rw [if_neg e, if_pos e]
  have hb : (List.range' 0 (xs.length - 0)).countP (fun j => decide (¬ xk xs j = xk ys j)) ≤ (List.range' 0 (xs.length - 0)).length := List.countP_le_length
  rw [List.length_range'] at hb
  rw [h, Nat.zero_add, mI_eq0 (by omega), List.countP_eq_zero]
  constructor
  · intro z i hi
    have := z i (List.mem_range'_1.mpr ⟨Nat.zero_le _, by omega⟩)
    rw [decide_eq_true_iff] at this
    exact Classical.byContradiction (fun w => this w)
  · intro z i hi
    have h9 := List.mem_range'_1.mp hi
    rw [decide_eq_true_iff]
    exact fun w => w (z i (by omega))
theorem keys_eq {xs ys : List mIt} (hl : xs.length = ys.length) : (∀ i, i < xs.length → xk xs i = xk ys i) ↔ xs.map Prod.fst = ys.map Prod.fst := by
  constructor
  · intro h
    refine List.ext_getElem (by rw [List.length_map, List.length_map, hl]) (fun i h1 h2 => ?_)
    rw [List.length_map] at h1 h2
    rw [List.getElem_map, List.getElem_map, xk_get h1, xk_get h2]
    exact h i h1
  · intro h i hi
    have h2 : (xs.map Prod.fst)[i]? = (ys.map Prod.fst)[i]? := by rw [h]
    rw [List.getElem?_map, List.getElem?_map, List.getElem?_eq_getElem hi, List.getElem?_eq_getElem (show i < ys.length by omega), xk_get hi, xk_get (show i < ys.length by omega)] at h2
    exact Option.some.inj h2
def kIn (x : Int32) : Prop := -99999 ≤ x.toInt ∧ x.toInt ≤ 99999
def kAll (xs : List mIt) : Prop := ∀ z ∈ xs, kIn z.1
def kOk (S : cS) : Prop := ∀ r, r < 4 → kAll (S.1 r)
theorem kAll.nil : kAll [] := fun z hz => absurd hz (List.not_mem_nil)
theorem kOk.set {S : cS} (K : kOk S) {r : Nat} {ys : List mIt} (h : kAll ys) : kOk (cSet S r ys) := fun q hq => by
  show kAll (if q = r then ys else S.1 q)
  split
  · exact h
  · exact K q hq
/-- an answer that v says, or kind 1 where a, or kind 2 where b -/
def oI (v : Value → Prop) (a b : Bool) (o : Nat × Value × cS) : Prop := (o.1 = 0 ∧ v o.2.1) ∨ (o.1 = 1 ∧ a = true) ∨ (o.1 = 2 ∧ b = true)
theorem dAt_o {v : Value → Prop} {b : Bool} {S : cS} {k : Nat} {x : Int32} {f : Nat → Nat × Value × cS} (hf : ∀ r, oI v true b (f r)) : oI v true b (dAt S k x f) := by
  unfold dAt
  split
  · exact Or.inr (Or.inl ⟨rfl, rfl⟩)
  · exact hf _
theorem dArg_o {v : Value → Prop} {a : Bool} {S : cS} {k : Nat} {x : Int32} {f : Nat → Nat × Value × cS} (hf : ∀ r, oI v a true (f r)) : oI v a true (dArg S k x f) := by
  unfold dArg
  split
  · exact Or.inr (Or.inr ⟨rfl, rfl⟩)
  · exact hf _
theorem dFit_o {v : Value → Prop} {a : Bool} {S : cS} {k : Bool} {o : Nat × Value × cS} (hf : oI v a true o) : oI v a true (dFit S k o) := by
  unfold dFit
  split
  · exact hf
  · exact Or.inr (Or.inr ⟨rfl, rfl⟩)
theorem dB_o {v : Value → Prop} {a : Bool} {S : cS} {x : Int32} {f : Nat → Nat × Value × cS} (hf : ∀ r, oI v a true (f r)) : oI v a true (dB S x f) := by
  unfold dB
  split
  · exact Or.inr (Or.inr ⟨rfl, rfl⟩)
  · exact hf _
theorem dKeep_o {v : Value → Prop} {b : Bool} {S : cS} {L : Nat} {x y : Int32} {f : Nat → Nat → Nat × Value × cS} (hf : ∀ p t, oI v true b (f p t)) : oI v true b (dKeep S L x y f) := by
  unfold dKeep
  split
  · exact Or.inr (Or.inl ⟨rfl, rfl⟩)
  · exact hf _ _
def vI (v : Value) : Prop := ∃ x, v = .int x
theorem cAt.fr2 {h h' : mH} {S : cS} (C : cAt h S) (hf : ∀ j, j < 27 → h' j = h j) : cAt h' S := by
  obtain ⟨c1, ⟨g, c2, c3⟩, c4, c5, ⟨z1, c6⟩, ⟨z2, c7⟩, ⟨z3, c8⟩, ⟨z4, c9⟩⟩ := C
  exact ⟨(hf _ (by omega)).trans c1, ⟨g, (hf _ (by omega)).trans c2, c3⟩, (hf _ (by omega)).trans c4, fun r hr => (c5 r hr).fr (fun j j1 j2 => hf _ (by omega)), ⟨z1, c6.fr (fun j j1 j2 => hf _ (by omega))⟩, ⟨z2, c7.fr (fun j j1 j2 => hf _ (by omega))⟩, ⟨z3, c8.fr (fun j j1 j2 => hf _ (by omega))⟩, ⟨z4, c9.fr (fun j j1 j2 => hf _ (by omega))⟩⟩
theorem oi_fill {S : cS} {row : Int32} {many : Int32} {pattern : Int32} {a : Int32} {b : Int32} : oI vI true true (sp_fill S row many pattern a b) := by
  unfold sp_fill
  repeat' first | exact Or.inl ⟨rfl, _, rfl⟩ | exact Or.inr (Or.inr ⟨rfl, rfl⟩) | exact Or.inr (Or.inl ⟨rfl, rfl⟩) | refine dAt_o (fun r => ?_) | refine dArg_o (fun r => ?_) | refine dFit_o ?_ | refine dB_o (fun r => ?_) | refine dKeep_o (fun p t => ?_) | split
theorem oi_add {S : cS} {row : Int32} {key : Int32} : oI vI true true (sp_add S row key) := by
  unfold sp_add
  repeat' first | exact Or.inl ⟨rfl, _, rfl⟩ | exact Or.inr (Or.inr ⟨rfl, rfl⟩) | exact Or.inr (Or.inl ⟨rfl, rfl⟩) | refine dAt_o (fun r => ?_) | refine dArg_o (fun r => ?_) | refine dFit_o ?_ | refine dB_o (fun r => ?_) | refine dKeep_o (fun p t => ?_) | split
theorem oi_put {S : cS} {row : Int32} {place : Int32} {key : Int32} : oI vI true true (sp_put S row place key) := by
  unfold sp_put
  repeat' first | exact Or.inl ⟨rfl, _, rfl⟩ | exact Or.inr (Or.inr ⟨rfl, rfl⟩) | exact Or.inr (Or.inl ⟨rfl, rfl⟩) | refine dAt_o (fun r => ?_) | refine dArg_o (fun r => ?_) | refine dFit_o ?_ | refine dB_o (fun r => ?_) | refine dKeep_o (fun p t => ?_) | split
theorem oi_drop {S : cS} {row : Int32} {place : Int32} : oI vI true false (sp_drop S row place) := by
  unfold sp_drop
  repeat' first | exact Or.inl ⟨rfl, _, rfl⟩ | exact Or.inr (Or.inr ⟨rfl, rfl⟩) | exact Or.inr (Or.inl ⟨rfl, rfl⟩) | refine dAt_o (fun r => ?_) | refine dArg_o (fun r => ?_) | refine dFit_o ?_ | refine dB_o (fun r => ?_) | refine dKeep_o (fun p t => ?_) | split
theorem oi_clear {S : cS} {row : Int32} : oI vI true false (sp_clear S row) := by
  unfold sp_clear
  repeat' first | exact Or.inl ⟨rfl, _, rfl⟩ | exact Or.inr (Or.inr ⟨rfl, rfl⟩) | exact Or.inr (Or.inl ⟨rfl, rfl⟩) | refine dAt_o (fun r => ?_) | refine dArg_o (fun r => ?_) | refine dFit_o ?_ | refine dB_o (fun r => ?_) | refine dKeep_o (fun p t => ?_) | split
theorem oi_exchange {S : cS} {row : Int32} {place : Int32} : oI vI true false (sp_exchange S row place) := by
  unfold sp_exchange
  repeat' first | exact Or.inl ⟨rfl, _, rfl⟩ | exact Or.inr (Or.inr ⟨rfl, rfl⟩) | exact Or.inr (Or.inl ⟨rfl, rfl⟩) | refine dAt_o (fun r => ?_) | refine dArg_o (fun r => ?_) | refine dFit_o ?_ | refine dB_o (fun r => ?_) | refine dKeep_o (fun p t => ?_) | split
theorem oi_swap {S : cS} {row : Int32} {place : Int32} {other : Int32} : oI vI true false (sp_swap S row place other) := by
  unfold sp_swap
  repeat' first | exact Or.inl ⟨rfl, _, rfl⟩ | exact Or.inr (Or.inr ⟨rfl, rfl⟩) | exact Or.inr (Or.inl ⟨rfl, rfl⟩) | refine dAt_o (fun r => ?_) | refine dArg_o (fun r => ?_) | refine dFit_o ?_ | refine dB_o (fun r => ?_) | refine dKeep_o (fun p t => ?_) | split
theorem oi_turn {S : cS} {row : Int32} : oI vI true false (sp_turn S row) := by
  unfold sp_turn
  repeat' first | exact Or.inl ⟨rfl, _, rfl⟩ | exact Or.inr (Or.inr ⟨rfl, rfl⟩) | exact Or.inr (Or.inl ⟨rfl, rfl⟩) | refine dAt_o (fun r => ?_) | refine dArg_o (fun r => ?_) | refine dFit_o ?_ | refine dB_o (fun r => ?_) | refine dKeep_o (fun p t => ?_) | split
theorem oi_roll {S : cS} {row : Int32} {by_ : Int32} : oI vI true true (sp_roll S row by_) := by
  unfold sp_roll
  repeat' first | exact Or.inl ⟨rfl, _, rfl⟩ | exact Or.inr (Or.inr ⟨rfl, rfl⟩) | exact Or.inr (Or.inl ⟨rfl, rfl⟩) | refine dAt_o (fun r => ?_) | refine dArg_o (fun r => ?_) | refine dFit_o ?_ | refine dB_o (fun r => ?_) | refine dKeep_o (fun p t => ?_) | split
theorem oi_keep {S : cS} {row : Int32} {from_ : Int32} {to : Int32} : oI vI true false (sp_keep S row from_ to) := by
  unfold sp_keep
  repeat' first | exact Or.inl ⟨rfl, _, rfl⟩ | exact Or.inr (Or.inr ⟨rfl, rfl⟩) | exact Or.inr (Or.inl ⟨rfl, rfl⟩) | refine dAt_o (fun r => ?_) | refine dArg_o (fun r => ?_) | refine dFit_o ?_ | refine dB_o (fun r => ?_) | refine dKeep_o (fun p t => ?_) | split
theorem oi_sort {S : cS} {row : Int32} : oI vI true false (sp_sort S row) := by
  unfold sp_sort
  repeat' first | exact Or.inl ⟨rfl, _, rfl⟩ | exact Or.inr (Or.inr ⟨rfl, rfl⟩) | exact Or.inr (Or.inl ⟨rfl, rfl⟩) | refine dAt_o (fun r => ?_) | refine dArg_o (fun r => ?_) | refine dFit_o ?_ | refine dB_o (fun r => ?_) | refine dKeep_o (fun p t => ?_) | split
theorem oi_copy {S : cS} {row : Int32} {into : Int32} : oI vI true false (sp_copy S row into) := by
  unfold sp_copy
  repeat' first | exact Or.inl ⟨rfl, _, rfl⟩ | exact Or.inr (Or.inr ⟨rfl, rfl⟩) | exact Or.inr (Or.inl ⟨rfl, rfl⟩) | refine dAt_o (fun r => ?_) | refine dArg_o (fun r => ?_) | refine dFit_o ?_ | refine dB_o (fun r => ?_) | refine dKeep_o (fun p t => ?_) | split
theorem oi_join {S : cS} {row : Int32} {other : Int32} : oI vI true false (sp_join S row other) := by
  unfold sp_join
  repeat' first | exact Or.inl ⟨rfl, _, rfl⟩ | exact Or.inr (Or.inr ⟨rfl, rfl⟩) | exact Or.inr (Or.inl ⟨rfl, rfl⟩) | refine dAt_o (fun r => ?_) | refine dArg_o (fun r => ?_) | refine dFit_o ?_ | refine dB_o (fun r => ?_) | refine dKeep_o (fun p t => ?_) | split
theorem oi_merge {S : cS} {row : Int32} {other : Int32} : oI vI true false (sp_merge S row other) := by
  unfold sp_merge
  repeat' first | exact Or.inl ⟨rfl, _, rfl⟩ | exact Or.inr (Or.inr ⟨rfl, rfl⟩) | exact Or.inr (Or.inl ⟨rfl, rfl⟩) | refine dAt_o (fun r => ?_) | refine dArg_o (fun r => ?_) | refine dFit_o ?_ | refine dB_o (fun r => ?_) | refine dKeep_o (fun p t => ?_) | split
