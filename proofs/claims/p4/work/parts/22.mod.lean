/-! ===== the reference's state ===== -/
def inR (v a b : Int32) : Bool := !decide (v < a) && !decide (b < v)
theorem inR_t {j k : Nat} (h : j < k + 1) (hk : k < 2 ^ 30) : inR (nI j) (nI 0) (nI k) = true := by
  unfold inR
  rw [decide_eq_false (nI_nlt (Nat.zero_le _) (by omega)), decide_eq_false (nI_nlt (by omega) (by omega))]
  rfl
theorem inR_f {k : Nat} {x : Int32} (h : inN (k + 1) x = none) (hk : k < 2 ^ 30) : inR x (nI 0) (nI k) = false := by
  unfold inR
  by_cases h0 : x < 0
  · rw [decide_eq_true (show x < nI 0 from h0)]; rfl
  · obtain ⟨j, hj, rfl⟩ := nI_of h0
    by_cases h1 : k < j
    · rw [decide_eq_true (nI_lt h1 hj), Bool.not_true, Bool.and_false]
    · rw [inN_some (by omega) (by omega)] at h; cases h
theorem rroom_le {r : Nat} : rroom r ≤ 320 := by unfold rroom; split <;> omega
/-- a row out of two functions -/
def zipF (f g : Nat → Int32) (n : Nat) : List mIt := (List.range n).map (fun i => (f i, g i))
theorem zipF_len {f g : Nat → Int32} {n : Nat} : (zipF f g n).length = n := by unfold zipF; rw [List.length_map, List.length_range]
theorem xk_zip {f g : Nat → Int32} {n i : Nat} (h : i < n) : xk (zipF f g n) i = f i := by
  unfold xk zipF
  rw [List.getD_eq_getElem?_getD, List.getElem?_map, List.getElem?_range h]
  rfl
theorem xt_zip {f g : Nat → Int32} {n i : Nat} (h : i < n) : xt (zipF f g n) i = g i := by
  unfold xt zipF
  rw [List.getD_eq_getElem?_getD, List.getElem?_map, List.getElem?_range h]
  rfl
def aAt (h : mH) (n a len : Nat) (f : Nat → Int32) : Prop := (28 < a ∧ a ≠ 33 ∧ a ≠ 38 ∧ a < n) ∧ ∃ g : Nat → Int32, h a = .inl (0, len, g) ∧ ∀ i, i < len → g i = f i
theorem aAt.fr {h h' : mH} {n n' a len : Nat} {f : Nat → Int32} (H : aAt h n a len f) (hn : n ≤ n') (he : h' a = h a) : aAt h' n' a len f := by
  obtain ⟨⟨a1, a2, a3, a4⟩, g, e, hg⟩ := H
  exact ⟨⟨a1, a2, a3, by omega⟩, g, he.trans e, hg⟩
def mObj (S : cS) (th : Int32) : mE := .inr (.inr (6, [.ref 28, .ref 33, .int S.2.1, .int S.2.2.1, .int S.2.2.2.1, .int S.2.2.2.2, .int th]))
def mRows (h : mH) (n : Nat) (S : cS) (kx sx : Nat → Nat) : Prop := (∃ g : Nat → Option Nat, h 28 = .inr (.inl (3, 4, g)) ∧ ∀ r, r < 4 → g r = some (kx r)) ∧ (∃ g : Nat → Option Nat, h 33 = .inr (.inl (3, 4, g)) ∧ ∀ r, r < 4 → g r = some (sx r)) ∧ (∀ r, r < 4 → aAt h n (kx r) (S.1 r).length (xk (S.1 r))) ∧ (∀ r, r < 4 → aAt h n (sx r) (S.1 r).length (xt (S.1 r))) ∧ (∀ r q, r < 4 → q < 4 → kx r ≠ sx q) ∧ (∀ r q, r < 4 → q < 4 → r ≠ q → kx r ≠ kx q ∧ sx r ≠ sx q) ∧ (∀ r, r < 4 → (S.1 r).length ≤ rroom r)
/-- the reference's object with its cells: 27, 28, 33 and eight arrays somewhere behind -/
def mAt (h : mH) (n : Nat) (S : cS) (th : Int32) : Prop := h 27 = mObj S th ∧ 39 ≤ n ∧ ∃ kx sx, mRows h n S kx sx
theorem mRows.fr {h h' : mH} {n n' : Nat} {S : cS} {kx sx : Nat → Nat} (H : mRows h n S kx sx) (hn : n ≤ n') (hf : ∀ j, 28 ≤ j → j ≠ 38 → j < n → h' j = h j) (h39 : 39 ≤ n) : mRows h' n' S kx sx := by
  obtain ⟨⟨g1, a1, a2⟩, ⟨g2, b1, b2⟩, c1, c2, c3, c4, c5⟩ := H
  refine ⟨⟨g1, (hf 28 (by omega) (by omega) (by omega)).trans a1, a2⟩, ⟨g2, (hf 33 (by omega) (by omega) (by omega)).trans b1, b2⟩, fun r hr => ?_, fun r hr => ?_, c3, c4, c5⟩
  · have z := (c1 r hr).1; exact (c1 r hr).fr hn (hf _ (by omega) (by omega) (by omega))
  · have z := (c2 r hr).1; exact (c2 r hr).fr hn (hf _ (by omega) (by omega) (by omega))
/-- a row gets two new arrays -/
theorem mRows.upd {h h' : mH} {n n' r a b : Nat} {S : cS} {kx sx : Nat → Nat} {ys : List mIt} {g1 g2 : Nat → Option Nat} {fk fs : Nat → Int32} (H : mRows h n S kx sx) (h39 : 39 ≤ n) (hn : n ≤ n') (hr : r < 4) (ha : n ≤ a ∧ a < n') (hb : n ≤ b ∧ b < n') (hab : a ≠ b)
    (e1 : h' 28 = .inr (.inl (3, 4, g1))) (g1r : g1 r = some a) (g1q : ∀ q, q < 4 → q ≠ r → g1 q = some (kx q)) (e2 : h' 33 = .inr (.inl (3, 4, g2))) (g2r : g2 r = some b) (g2q : ∀ q, q < 4 → q ≠ r → g2 q = some (sx q))
    (ea : h' a = .inl (0, ys.length, fk)) (eb : h' b = .inl (0, ys.length, fs)) (hk : ∀ i, i < ys.length → fk i = xk ys i) (hs : ∀ i, i < ys.length → fs i = xt ys i) (hl : ys.length ≤ rroom r) (hf : ∀ j, 28 < j → j ≠ 33 → j ≠ 38 → j < n → h' j = h j) : mRows h' n' (cSet S r ys) (fun q => if q = r then a else kx q) (fun q => if q = r then b else sx q) := by
  obtain ⟨-, -, c1, c2, c3, c4, c5⟩ := H
  have bk : ∀ q, q < 4 → 28 < kx q ∧ kx q ≠ 33 ∧ kx q ≠ 38 ∧ kx q < n := fun q hq => (c1 q hq).1
  have bs : ∀ q, q < 4 → 28 < sx q ∧ sx q ≠ 33 ∧ sx q ≠ 38 ∧ sx q < n := fun q hq => (c2 q hq).1
  refine ⟨⟨g1, e1, fun q hq => ?_⟩, ⟨g2, e2, fun q hq => ?_⟩, fun q hq => ?_, fun q hq => ?_, fun q w hq hw => ?_, fun q w hq hw hne => ?_, fun q hq => ?_⟩
  · by_cases z : q = r
    · subst z; show g1 q = some (if q = q then a else kx q); rw [if_pos rfl]; exact g1r
    · show g1 q = some (if q = r then a else kx q); rw [if_neg z]; exact g1q q hq z
  · by_cases z : q = r
    · subst z; show g2 q = some (if q = q then b else sx q); rw [if_pos rfl]; exact g2r
    · show g2 q = some (if q = r then b else sx q); rw [if_neg z]; exact g2q q hq z
  · by_cases z : q = r
    · subst z
      simp only [cSet, if_pos]
      exact ⟨⟨by omega, by omega, by omega, by omega⟩, fk, ea, hk⟩
    · simp only [cSet, if_neg z]
      have y := bk q hq
      exact (c1 q hq).fr hn (hf _ (by omega) (by omega) (by omega) (by omega))
  · by_cases z : q = r
    · subst z
      simp only [cSet, if_pos]
      exact ⟨⟨by omega, by omega, by omega, by omega⟩, fs, eb, hs⟩
    · simp only [cSet, if_neg z]
      have y := bs q hq
      exact (c2 q hq).fr hn (hf _ (by omega) (by omega) (by omega) (by omega))
  · have y1 := bk q hq
    have y2 := bs w hw
    have y3 := c3 q w hq hw
    show (if q = r then a else kx q) ≠ (if w = r then b else sx w)
    split <;> split <;> omega
  · have y1 := bk q hq
    have y2 := bs w hw
    have y1' := bk w hw
    have y2' := bs q hq
    have y3 := c4 q w hq hw hne
    constructor
    · show (if q = r then a else kx q) ≠ (if w = r then a else kx w)
      split <;> split <;> omega
    · show (if q = r then b else sx q) ≠ (if w = r then b else sx w)
      split <;> split <;> omega
  · by_cases z : q = r
    · subst z; simp only [cSet, if_pos]; exact hl
    · simp only [cSet, if_neg z]; exact c5 q hq
/-- a row's own two arrays have changed -/
theorem mRows.put {h h' : mH} {n n' r : Nat} {S : cS} {kx sx : Nat → Nat} {ys : List mIt} {fk fs : Nat → Int32} (H : mRows h n S kx sx) (h39 : 39 ≤ n) (hn : n ≤ n') (hr : r < 4) (hy : ys.length = (S.1 r).length) (ea : h' (kx r) = .inl (0, ys.length, fk)) (eb : h' (sx r) = .inl (0, ys.length, fs)) (hk : ∀ i, i < ys.length → fk i = xk ys i) (hs : ∀ i, i < ys.length → fs i = xt ys i) (hf : ∀ j, 28 ≤ j → j ≠ 38 → j ≠ kx r → j ≠ sx r → j < n → h' j = h j) : mRows h' n' (cSet S r ys) kx sx := by
  obtain ⟨⟨g1, a1, a2⟩, ⟨g2, b1, b2⟩, c1, c2, c3, c4, c5⟩ := H
  have bk : ∀ q, q < 4 → 28 < kx q ∧ kx q ≠ 33 ∧ kx q ≠ 38 ∧ kx q < n := fun q hq => (c1 q hq).1
  have bs : ∀ q, q < 4 → 28 < sx q ∧ sx q ≠ 33 ∧ sx q ≠ 38 ∧ sx q < n := fun q hq => (c2 q hq).1
  have y1 := bk r hr
  have y2 := bs r hr
  refine ⟨⟨g1, (hf 28 (by omega) (by omega) (by omega) (by omega) (by omega)).trans a1, a2⟩, ⟨g2, (hf 33 (by omega) (by omega) (by omega) (by omega) (by omega)).trans b1, b2⟩, fun q hq => ?_, fun q hq => ?_, c3, c4, fun q hq => ?_⟩
  · by_cases z : q = r
    · subst z
      simp only [cSet, if_pos]
      exact ⟨⟨y1.1, y1.2.1, y1.2.2.1, by omega⟩, fk, ea, hk⟩
    · simp only [cSet, if_neg z]
      have y := bk q hq
      have y3 := c3 q r hq hr
      have y4 := c4 q r hq hr z
      exact (c1 q hq).fr hn (hf _ (by omega) (by omega) (by omega) (by omega) (by omega))
  · by_cases z : q = r
    · subst z
      simp only [cSet, if_pos]
      exact ⟨⟨y2.1, y2.2.1, y2.2.2.1, by omega⟩, fs, eb, hs⟩
    · simp only [cSet, if_neg z]
      have y := bs q hq
      have y3 := c3 r q hr hq
      have y4 := c4 q r hq hr z
      exact (c2 q hq).fr hn (hf _ (by omega) (by omega) (by omega) (by omega) (by omega))
  · by_cases z : q = r
    · subst z; simp only [cSet, if_pos]; rw [hy]; exact c5 q hq
    · simp only [cSet, if_neg z]; exact c5 q hq
/-- what a call of the reference ends with: thrown tells the kind; cells below 27, and 38, are as they were -/
def mOk (o : Nat × Value × cS) (d : Value) (h : mH) (n : Nat) : Option Value → mH → Nat → Prop := fun v h' n' => v = some (if o.1 = 0 then o.2.1 else d) ∧ n ≤ n' ∧ mAt h' n' o.2.2 (nI o.1) ∧ ∀ j, (j < 27 ∨ j = 38) → h' j = h j
theorem mOk.of {o : Nat × Value × cS} {d : Value} {h h' : mH} {n n' : Nat} {x : Value} {S' : cS} {v : Option Value} {kx sx : Nat → Nat} (ho : o = (0, x, S')) (hv : v = some x) (hn : n ≤ n') (hc : h' 27 = mObj S' (nI 0)) (h39 : 39 ≤ n') (hR : mRows h' n' S' kx sx) (hf : ∀ j, (j < 27 ∨ j = 38) → h' j = h j) : mOk o d h n v h' n' := by
  subst ho
  exact ⟨hv, hn, ⟨hc, h39, kx, sx, hR⟩, hf⟩
theorem mOk.no {o : Nat × Value × cS} {d : Value} {h h' : mH} {n n' k : Nat} {S' : cS} {v : Option Value} {kx sx : Nat → Nat} (ho : o = (k, .null, S')) (hk : k ≠ 0) (hv : v = some d) (hn : n ≤ n') (hc : h' 27 = mObj S' (nI k)) (h39 : 39 ≤ n') (hR : mRows h' n' S' kx sx) (hf : ∀ j, (j < 27 ∨ j = 38) → h' j = h j) : mOk o d h n v h' n' := by
  subst ho
  exact ⟨by rw [if_neg hk]; exact hv, hn, ⟨hc, h39, kx, sx, hR⟩, hf⟩
theorem inR_in {k : Nat} {x : Int32} (hk : k < 2 ^ 30) : inR x (nI 0) (nI k) = (inN (k + 1) x).isSome := by
  rcases hq : inN (k + 1) x with _ | j
  · rw [inR_f hq hk]; rfl
  · obtain ⟨hj, rfl⟩ := inN_of hq (by omega)
    rw [inR_t hj hk]; rfl
theorem arr_step {g F : Nat → Int32} {m : Nat} {v : Int32} (hg : ∀ i, i < m → g i = F i) (hv : v = F m) : ∀ i, i < m + 1 → upd g m v i = F i := by
  intro i hi
  unfold upd
  by_cases q : i = m
  · subst q; rw [if_pos rfl]; exact hv
  · rw [if_neg q]; exact hg i (by omega)
def th3 (t f : Bool) : Int32 := if t = false then nI 1 else if f = false then nI 2 else nI 0
def sideF (x y : Int32) : Int32 := if x < y then -1 else if x = y then nI 0 else nI 1
def mpat (p k m : Nat) (a : Int32) (b : Nat) : Int32 := match p with
  | 0 => a
  | 1 => a + nI (k * b)
  | 2 => a - nI (k * b)
  | 3 => a + nI (k % b)
  | 4 => a + (if k / b % 2 = 0 then nI (k % b) else nI (b - 1 - k % b))
  | 5 => a + nI (b * min k (m - 1 - k))
  | _ => if k % 2 = 0 then a + nI (k / 2) else a + nI b - nI (k / 2)
def bothF (la : Nat) (f g : Nat → Int32) (i : Nat) : Int32 := if i < la then f i else g (i - la)
def madeF (r : Nat) (g : Int32) (i : Nat) : Int32 := if 1 < r then -1 else g + nI i
def madeG (r m : Nat) (g : Int32) : Int32 := if 1 < r then g else g + nI m
def unlF (f g : Nat → Int32) (k : Nat) (acc : Int32) : Int32 := acc + (if f k = g k then nI 0 else nI 1)
/-- ends: a new array at n, content F -/
def mArr (len : Nat) (F : Nat → Int32) (h : mH) (n : Nat) : Option Value → mH → Nat → Prop := fun v h' n' => v = some (.ref n) ∧ n' = n + 1 ∧ (∃ g : Nat → Int32, h' n = .inl (0, len, g) ∧ ∀ i, i < len → g i = F i) ∧ ∀ j, j ≠ n → h' j = h j
def rkS (xs : List mIt) (i : Nat) (j acc : Nat) : Nat := if xk xs j < xk xs i ∨ (j < i ∧ xk xs j = xk xs i) then acc + 1 else acc
theorem rankf_lt {xs : List mIt} {k : Nat} (hk : k < xs.length) : rankf xs k < xs.length := by
  have hle : ∀ j a, rkS xs k j a ≤ a + 1 := fun j a => by unfold rkS; split <;> omega
  have h : ∀ (d i acc : Nat), i ≤ k → k < i + d → mlp (rkS xs k) d i acc + 1 ≤ acc + d := by
    intro d
    induction d with
    | zero => intro i acc h1 h2; omega
    | succ d ih =>
      intro i acc h1 h2
      show mlp (rkS xs k) d (i + 1) (rkS xs k i acc) + 1 ≤ _
      by_cases q : i = k
      · subst q
        have e : rkS xs i i acc = acc := by
          unfold rkS
          rw [if_neg]
          rintro (z | z)
          · exact Int32.lt_irrefl z
          · omega
        rw [e]
        have := @mlp_le _ hle d (i + 1) acc
        omega
      · have h3 := hle i acc
        have := ih (i + 1) (rkS xs k i acc) (by omega) (by omega)
        omega
  have := h (xs.length - 0) 0 0 (by omega) (by omega)
  show mlp (rkS xs k) (xs.length - 0) 0 0 < _
  omega
def prS (xs : List mIt) (how : Int32) (k o : Nat) (acc : Int32) : Int32 := acc + (if sideF (xk xs o) (xk xs k) = how then nI 1 else nI 0)
def mq_pairs (xs : List mIt) (how : Int32) : Int32 := mlp (fun k acc => mlp (prS xs how k) (k - 0) 0 acc) (xs.length - 0) 0 (nI 0)
def ofS (xs : List mIt) (key how : Int32) (i : Nat) (acc : Int32) : Int32 := acc + (if sideF (xk xs i) key = how then nI 1 else nI 0)
def mq_often (xs : List mIt) (key how : Int32) : Int32 := mlp (ofS xs key how) (xs.length - 0) 0 (nI 0)
def mq_isNew (xs : List mIt) (p : Nat) : Bool := mall (fun k => decide (¬ xk xs k = xk xs p)) (p - 0) 0
def scS (xs : List mIt) (k : Nat) (p : Nat → Nat) : Nat → Nat := fun i => if i = rankf xs k then k else p i
/-- at each place the place of the item that stands there in the sorted row -/
def scat (xs : List mIt) : Nat → Nat := mlp (scS xs) (xs.length - 0) 0 (fun _ => 0)
theorem scat_lt {xs : List mIt} (h0 : 0 < xs.length) (i : Nat) : scat xs i < xs.length := by
  have h : ∀ (d k : Nat) (p : Nat → Nat), k + d ≤ xs.length → (∀ i, p i < xs.length) → ∀ i, mlp (scS xs) d k p i < xs.length := by
    intro d
    induction d with
    | zero => intro k p _ hp; exact hp
    | succ d ih =>
      intro k p hk hp
      refine ih (k + 1) (scS xs k p) (by omega) (fun i => ?_)
      unfold scS
      split
      · omega
      · exact hp i
  exact h _ _ _ (by omega) (fun _ => h0) i
def chF (xs : List mIt) (pl : Nat → Nat) (n : Nat) : List mIt := zipF (fun k => xk xs (pl k)) (fun k => xt xs (pl k)) n
def comF (q r len : Nat) (xs : List mIt) (g : Int32) (i : Nat) : Int32 := if 1 < q ∨ 1 < r then madeF q g i else xt xs i
def comG (q r len : Nat) (g : Int32) : Int32 := if 1 < q ∨ 1 < r then madeG q len g else g
theorem swp_len {xs : List mIt} {i j : Nat} : (swp xs i j).length = xs.length := by unfold swp; rw [List.length_set, List.length_set]
theorem swp_k {xs : List mIt} {i j : Nat} {f : Nat → Int32} (hi : i < xs.length) (hj : j < xs.length) (hk : ∀ k, k < xs.length → f k = xk xs k) : ∀ k, k < xs.length → upd (upd f i (xk xs j)) j (xk xs i) k = xk (swp xs i j) k := by
  intro k hk'
  rw [swp, xk_put (by rw [List.length_set]; exact hj), xk_put hi]
  unfold upd
  by_cases q : k = j
  · simp [q]
  · by_cases q2 : k = i
    · simp [q, q2]
    · simp [q, q2, hk k hk']
theorem swp_t {xs : List mIt} {i j : Nat} {f : Nat → Int32} (hi : i < xs.length) (hj : j < xs.length) (hk : ∀ k, k < xs.length → f k = xt xs k) : ∀ k, k < xs.length → upd (upd f i (xt xs j)) j (xt xs i) k = xt (swp xs i j) k := by
  intro k hk'
  rw [swp, xt_put (by rw [List.length_set]; exact hj), xt_put hi]
  unfold upd
  by_cases q : k = j
  · simp [q]
  · by_cases q2 : k = i
    · simp [q, q2]
    · simp [q, q2, hk k hk']
theorem set_k {xs : List mIt} {i : Nat} {p : mIt} {f : Nat → Int32} (hi : i < xs.length) (hk : ∀ k, k < xs.length → f k = xk xs k) : ∀ k, k < xs.length → upd f i p.1 k = xk (xs.set i p) k := by
  intro k hk'
  rw [xk_put hi]
  unfold upd
  by_cases q : k = i
  · simp [q]
  · simp [q, hk k hk']
theorem set_t {xs : List mIt} {i : Nat} {p : mIt} {f : Nat → Int32} (hi : i < xs.length) (hk : ∀ k, k < xs.length → f k = xt xs k) : ∀ k, k < xs.length → upd f i p.2 k = xt (xs.set i p) k := by
  intro k hk'
  rw [xt_put hi]
  unfold upd
  by_cases q : k = i
  · simp [q]
  · simp [q, hk k hk']
theorem inR1_f {x : Int32} (h : x < 1 ∨ nI 99 < x) : inR x (nI 1) (nI 99) = false := by
  unfold inR
  rcases h with h | h
  · rw [decide_eq_true (show x < nI 1 from h)]; rfl
  · rw [decide_eq_true h, Bool.not_true, Bool.and_false]
theorem inR1_t {p : Nat} (h : p < 100) (h0 : 0 < p) : inR (nI p) (nI 1) (nI 99) = true := by
  unfold inR
  rw [decide_eq_false (nI_nlt (a := p) (b := 1) (by omega) (by omega)), decide_eq_false (nI_nlt (a := 99) (b := p) (by omega) (by decide))]
  rfl
def wAt (xs : List mIt) (p k : Nat) (acc : Int32) : Int32 := acc + (if (k < p ∧ xk xs p < xk xs k) ∨ (p < k ∧ xk xs k < xk xs p) then nI 1 else nI 0)
def mruns (xs : List mIt) : Nat → Nat → Int32 → Int32
  | 0, _, acc => acc
  | d + 1, k, acc => if k < xs.length then mruns xs d (q_endOfRun xs k) (acc + 1) else acc
theorem mruns_go {xs : List mIt} {k : Nat} {acc r : Int32} (h : k < xs.length) (hr : ∃ d, xs.length ≤ k + d ∧ mruns xs d k acc = r) : ∃ d, xs.length ≤ (k + (q_endOfRun xs k - k)) + d ∧ mruns xs d (k + (q_endOfRun xs k - k)) (acc + 1) = r := by
  obtain ⟨d, h1, h2⟩ := hr
  have e1 : k + 1 ≤ q_endOfRun xs k := (@erun_le xs (xs.length - (k + 1)) (k + 1)).1
  have e2 : k + (q_endOfRun xs k - k) = q_endOfRun xs k := by omega
  match d, h1, h2 with
  | 0, h1, h2 => omega
  | d + 1, h1, h2 =>
    rw [mruns, if_pos h] at h2
    exact ⟨d, by omega, by rw [e2]; exact h2⟩
theorem mruns_end {xs : List mIt} {k : Nat} {acc r : Int32} (h : ¬ k < xs.length) (hr : ∃ d, xs.length ≤ k + d ∧ mruns xs d k acc = r) : acc = r := by
  obtain ⟨d, h1, h2⟩ := hr
  match d, h1, h2 with
  | 0, h1, h2 => exact h2
  | d + 1, h1, h2 =>
    rw [mruns, if_neg h] at h2
    exact h2
def lgS (xs : List mIt) (k m : Nat) : Nat := max m (q_endOfRun xs k - k)
theorem endOfRun_le {xs : List mIt} {k : Nat} (h : k < xs.length) : k + 1 ≤ q_endOfRun xs k ∧ q_endOfRun xs k ≤ xs.length := by
  have := @erun_le xs (xs.length - (k + 1)) (k + 1)
  exact ⟨this.1, by have := this.2; show erun xs _ _ ≤ _; omega⟩
def fsS (xs : List mIt) (key : Int32) (isLast : Bool) (k : Nat) (its : Int32) : Int32 := if xk xs k = key ∧ (isLast = true ∨ its = -1) then nI k else its
def enS (xs : List mIt) (b : Bool) (i : Nat) (its : Int32) : Int32 := if its = (-100000) then xk xs i else if b = false then (if xk xs i < its then xk xs i else its) else (if its < xk xs i then xk xs i else its)
def ulS (xs : List mIt) (k : Nat) (acc : Int32) : Int32 := acc + (if mq_isNew xs k = true then nI 1 else nI 0)
def moS (xs : List mIt) (i : Nat) (p : Int32 × Int32) : Int32 × Int32 := if mq_often xs (xk xs i) (nI 0) < p.2 then p else if mq_often xs (xk xs i) (nI 0) = p.2 then (if xk xs i < p.1 then (xk xs i, mq_often xs (xk xs i) (nI 0)) else p) else (xk xs i, mq_often xs (xk xs i) (nI 0))
def suS (xs : List mIt) (i : Nat) (acc : Int32) : Int32 := acc + xk xs i
def bgS (xs ys : List mIt) (i : Nat) (is : Bool) : Bool := is && decide (mq_often xs (xk xs i) (nI 0) = mq_often ys (xk xs i) (nI 0))
def mhS (S : cS) (i : Nat) (p : Nat × Int32) : Nat × Int32 := (p.1 + (S.1 i).length, p.2 + (if mq_pairs (S.1 i) (nI 1) = 0 then nI 1 else nI 0))
def mhF (S : cS) : Nat × Int32 := mlp (mhS S) (4 - 0) 0 (0, nI 0)
def mq_house (S : cS) (w : Nat) : Int32 := match w with
  | 0 => nI (mhF S).1
  | 1 => S.2.2.1
  | 2 => S.2.2.2.1
  | 3 => S.2.2.2.2
  | 4 => S.2.1
  | _ => (mhF S).2
/-- .. of the reference's house: kind 1 where there is no such number -/
def mp_house (S : cS) (what : Int32) : Nat × Value × cS := match inN 6 what with
  | none => (1, .null, S)
  | some w => (0, .int (mq_house S w), S)
theorem mp_house_s {S : cS} {w : Nat} (h : w < 6) : mp_house S (nI w) = (0, .int (mq_house S w), S) := by unfold mp_house; rw [inN_some h (by decide)]
theorem mp_house_n {S : cS} {x : Int32} (h : inN 6 x = none) : mp_house S x = (1, .null, S) := by unfold mp_house; rw [h]
theorem mOk.use {o : Nat × Value × cS} {d : Value} {h h' : mH} {n n' : Nat} {x : Value} {S' : cS} {v : Option Value} (hc : mOk o d h n v h' n') (ho : o = (0, x, S')) : v = some x ∧ n ≤ n' ∧ mAt h' n' S' (nI 0) ∧ ∀ j, (j < 27 ∨ j = 38) → h' j = h j := by
  subst ho
  exact hc
/-- .. of a question: of what was there, the object alone has changed -/
def mOkq (o : Nat × Value × cS) (d : Value) (h : mH) (n : Nat) : Option Value → mH → Nat → Prop := fun v h' n' => v = some (if o.1 = 0 then o.2.1 else d) ∧ n ≤ n' ∧ mAt h' n' o.2.2 (nI o.1) ∧ ∀ j, (j < n ∧ j ≠ 27) → h' j = h j
theorem mOkq.of {o : Nat × Value × cS} {d : Value} {h h' : mH} {n n' : Nat} {x : Value} {S' : cS} {v : Option Value} {kx sx : Nat → Nat} (ho : o = (0, x, S')) (hv : v = some x) (hn : n ≤ n') (hc : h' 27 = mObj S' (nI 0)) (h39 : 39 ≤ n') (hR : mRows h' n' S' kx sx) (hf : ∀ j, (j < n ∧ j ≠ 27) → h' j = h j) : mOkq o d h n v h' n' := by
  subst ho
  exact ⟨hv, hn, ⟨hc, h39, kx, sx, hR⟩, hf⟩
theorem mOkq.no {o : Nat × Value × cS} {d : Value} {h h' : mH} {n n' k : Nat} {S' : cS} {v : Option Value} {kx sx : Nat → Nat} (ho : o = (k, .null, S')) (hk : k ≠ 0) (hv : v = some d) (hn : n ≤ n') (hc : h' 27 = mObj S' (nI k)) (h39 : 39 ≤ n') (hR : mRows h' n' S' kx sx) (hf : ∀ j, (j < n ∧ j ≠ 27) → h' j = h j) : mOkq o d h n v h' n' := by
  subst ho
  exact ⟨by rw [if_neg hk]; exact hv, hn, ⟨hc, h39, kx, sx, hR⟩, hf⟩
theorem mOkq.use {o : Nat × Value × cS} {d : Value} {h h' : mH} {n n' : Nat} {x : Value} {S' : cS} {v : Option Value} (hc : mOkq o d h n v h' n') (ho : o = (0, x, S')) : v = some x ∧ n ≤ n' ∧ mAt h' n' S' (nI 0) ∧ ∀ j, (j < n ∧ j ≠ 27) → h' j = h j := by
  subst ho
  exact hc
theorem mOkq.ok {o : Nat × Value × cS} {d : Value} {h h' : mH} {n n' : Nat} {v : Option Value} (h39 : 39 ≤ n) (hc : mOkq o d h n v h' n') : mOk o d h n v h' n' := ⟨hc.1, hc.2.1, hc.2.2.1, fun j hj => hc.2.2.2 j (by omega)⟩
def mdA (S : cS) (i : Nat) (k : Nat) : Int32 := match k with
  | 0 => nI (S.1 i).length
  | 1 => q_mark (S.1 i) false
  | 2 => q_mark (S.1 i) true
  | 3 => mq_pairs (S.1 i) (nI 1)
  | 4 => mq_pairs (S.1 i) (nI 0)
  | 5 => mruns (S.1 i) (S.1 i).length 0 (nI 0)
  | 6 => nI (mlp (lgS (S.1 i)) ((S.1 i).length - 0) 0 0)
  | 7 => mlp (suS (S.1 i)) ((S.1 i).length - 0) 0 (nI 0)
  | _ => mlp (ulS (S.1 i)) ((S.1 i).length - 0) 0 (nI 0)
def mdS (S : cS) (i k : Nat) (d : Int64) : Int64 := d * 31 + (mdA S i k).toInt64
def mdRow (S : cS) (i : Nat) (d : Int64) : Int64 := mlp (mdS S i) (9 - 0) 0 d
def mdHouse (S : cS) (w : Nat) (d : Int64) : Int64 := d * 31 + (mq_house S w).toInt64
def mq_digest (S : cS) : Int64 := mlp (mdHouse S) (6 - 0) 0 (mlp (mdRow S) (4 - 0) 0 8007) * 31 + 1
theorem va_rf_up {g : Nat → Option Nat} {i a : Nat} : va_rf (va_up g i (some a) i) = .ref a := by unfold va_up; rw [if_pos rfl]; rfl
theorem cSet_s {S : cS} {r : Nat} {ys : List mIt} : (cSet S r ys).1 r = ys := if_pos rfl
theorem chF_l {xs : List mIt} {pl : Nat → Nat} {n : Nat} : (chF xs pl n).length = n := zipF_len
def drF (p i : Nat) : Nat := if i < p then i else i + 1
def tnF (L i : Nat) : Nat := L - 1 - i
def rlF (b L i : Nat) : Nat := (i + b) % L
/-- a row with another's keys f and stamps g behind it -/
def jnL (xs : List mIt) (f g : Nat → Int32) (m : Nat) : List mIt := zipF (bothF xs.length (xk xs) f) (bothF xs.length (xt xs) g) (xs.length + m)
theorem jnL_len {xs : List mIt} {f g : Nat → Int32} {m : Nat} : (jnL xs f g m).length = xs.length + m := zipF_len
theorem both_eq {la lb : Nat} {f1 f2 F G : Nat → Int32} (h1 : ∀ i, i < la → f1 i = F i) (h2 : ∀ i, i < lb → f2 i = G i) : ∀ i, i < la + lb → bothF la f1 f2 i = bothF la F G i := by
  intro i hi
  unfold bothF
  by_cases q : i < la
  · rw [if_pos q, if_pos q]; exact h1 i q
  · rw [if_neg q, if_neg q]; exact h2 _ (by omega)
theorem jn_k {xs : List mIt} {f g fk kf f2 : Nat → Int32} {m : Nat} (hd : ∀ i, i < xs.length + m → fk i = bothF xs.length kf f2 i) (h1 : ∀ i, i < xs.length → kf i = xk xs i) (h2 : ∀ i, i < m → f2 i = f i) : ∀ i, i < (jnL xs f g m).length → fk i = xk (jnL xs f g m) i := by
  intro i hi
  rw [jnL_len] at hi
  rw [hd i hi, both_eq h1 h2 i hi]
  exact (xk_zip hi).symm
theorem jn_t {xs : List mIt} {f g fk kf g2 : Nat → Int32} {m : Nat} (hd : ∀ i, i < xs.length + m → fk i = bothF xs.length kf g2 i) (h1 : ∀ i, i < xs.length → kf i = xt xs i) (h2 : ∀ i, i < m → g2 i = g i) : ∀ i, i < (jnL xs f g m).length → fk i = xt (jnL xs f g m) i := by
  intro i hi
  rw [jnL_len] at hi
  rw [hd i hi, both_eq h1 h2 i hi]
  exact (xt_zip hi).symm
theorem zip_k {f g fk : Nat → Int32} {n : Nat} (h : ∀ i, i < n → fk i = f i) : ∀ i, i < (zipF f g n).length → fk i = xk (zipF f g n) i := by
  intro i hi
  rw [zipF_len] at hi
  rw [h i hi]; exact (xk_zip hi).symm
theorem zip_t {f g fk : Nat → Int32} {n : Nat} (h : ∀ i, i < n → fk i = g i) : ∀ i, i < (zipF f g n).length → fk i = xt (zipF f g n) i := by
  intro i hi
  rw [zipF_len] at hi
  rw [h i hi]; exact (xt_zip hi).symm
def srS (xs ys : List mIt) (k : Nat) (acc : Int32) : Int32 := acc + (if xk xs k = xk ys k ∧ xt xs k = xt ys k then nI 0 else nI 1)
def drs (x : Int32) : Nat → Int32
  | 0 => x
  | k + 1 => drw (drs x k)
def flF (p m : Nat) (a : Int32) (b : Nat) (i : Nat) : Int32 := if p = 7 then drk (drs (drx a b) (i + 1)) else mpat p i m a b
theorem mRows.upz {h h' : mH} {n n' r a b : Nat} {S : cS} {kx sx : Nat → Nat} {ys : List mIt} {g1 g2 : Nat → Option Nat} {fk fs : Nat → Int32} {L : Nat} (H : mRows h n S kx sx) (hL : ys.length = L) (h39 : 39 ≤ n) (hn : n ≤ n') (hr : r < 4) (ha : n ≤ a ∧ a < n') (hb : n ≤ b ∧ b < n') (hab : a ≠ b)
    (e1 : h' 28 = .inr (.inl (3, 4, va_up g1 r (some a)))) (g1q : ∀ q, q < 4 → q ≠ r → va_up g1 r (some a) q = some (kx q)) (e2 : h' 33 = .inr (.inl (3, 4, va_up g2 r (some b)))) (g2q : ∀ q, q < 4 → q ≠ r → va_up g2 r (some b) q = some (sx q))
    (ea : h' a = .inl (0, L, fk)) (eb : h' b = .inl (0, L, fs)) (hk : ∀ i, i < ys.length → fk i = xk ys i) (hs : ∀ i, i < ys.length → fs i = xt ys i) (hl : L ≤ rroom r) (hf : ∀ j, 28 < j → j ≠ 33 → j ≠ 38 → j < n → h' j = h j) : ∃ k9 s9, mRows h' n' (cSet S r ys) k9 s9 := by
  subst hL
  exact ⟨_, _, mRows.upd H h39 hn hr ha hb hab e1 (if_pos rfl) g1q e2 (if_pos rfl) g2q ea eb hk hs hl hf⟩
theorem mOk.ofE {o : Nat × Value × cS} {d : Value} {h h' : mH} {n n' : Nat} {x : Value} {S' : cS} {v : Option Value} (ho : o = (0, x, S')) (hv : v = some x) (hn : n ≤ n') (hc : h' 27 = mObj S' (nI 0)) (h39 : 39 ≤ n') (hR : ∃ kx sx, mRows h' n' S' kx sx) (hf : ∀ j, (j < 27 ∨ j = 38) → h' j = h j) : mOk o d h n v h' n' := by
  obtain ⟨kx, sx, hR⟩ := hR
  exact mOk.of ho hv hn hc h39 hR hf
theorem cSet_cSet {S : cS} {r : Nat} {a b : List mIt} : cSet (cSet S r a) r b = cSet S r b := by
  unfold cSet
  have e : (fun k => if k = r then b else (if k = r then a else S.1 k)) = (fun k => if k = r then b else S.1 k) := by
    funext k
    by_cases q : k = r
    · rw [if_pos q, if_pos q]
    · rw [if_neg q, if_neg q, if_neg q]
  show ((fun k => if k = r then b else (if k = r then a else S.1 k)), S.2) = _
  rw [e]
