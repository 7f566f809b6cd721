/-! ===== the reference's state ===== -/
def inR (v a b : Int32) : Bool := !decide (v < a) && !decide (b < v)
theorem inR_t {j k : Nat} (h : j < k + 1) (hk : k < 2 ^ 30) : inR (nI j) (nI 0) (nI k) = true := by
  unfold inR
  rw [decide_eq_false (nI_nlt (Nat.zero_le _) (by omega)), decide_eq_false (nI_nlt (by omega) (by omega))]
  rfl
theorem inR_f {k : Nat} {x : Int32} (h : inN (k + 1) x = none) (hk : k < 2 ^ 30) : inR x (nI 0) (nI k) = false := by
  unfold inR
  by_cases h0 : x < 0
  · rw [decide_eq_true (show x < nI 0 from h0)]; rfl
  · obtain ⟨j, hj, rfl⟩ := nI_of h0
    by_cases h1 : k < j
    · rw [decide_eq_true (nI_lt h1 hj), Bool.not_true, Bool.and_false]
    · rw [inN_some (by omega) (by omega)] at h; cases h
theorem rroom_le {r : Nat} : rroom r ≤ 320 := by unfold rroom; split <;> omega
/-- a row out of two functions -/
def zipF (f g : Nat → Int32) (n : Nat) : List mIt := (List.range n).map (fun i => (f i, g i))
theorem zipF_len {f g : Nat → Int32} {n : Nat} : (zipF f g n).length = n := by unfold zipF; rw [List.length_map, List.length_range]
theorem xk_zip {f g : Nat → Int32} {n i : Nat} (h : i < n) : xk (zipF f g n) i = f i := by
  unfold xk zipF
  rw [List.getD_eq_getElem?_getD, List.getElem?_map, List.getElem?_range h]
  rfl
theorem xt_zip {f g : Nat → Int32} {n i : Nat} (h : i < n) : xt (zipF f g n) i = g i := by
  unfold xt zipF
  rw [List.getD_eq_getElem?_getD, List.getElem?_map, List.getElem?_range h]
  rfl
def aAt (h : mH) (n a len : Nat) (f : Nat → Int32) : Prop := (28 < a ∧ a ≠ 33 ∧ a ≠ 38 ∧ a < n) ∧ ∃ g : Nat → Int32, h a = .inl (0, len, g) ∧ ∀ i, i < len → g i = f i
theorem aAt.fr {h h' : mH} {n n' a len : Nat} {f : Nat → Int32} (H : aAt h n a len f) (hn : n ≤ n') (he : h' a = h a) : aAt h' n' a len f := by
  obtain ⟨⟨a1, a2, a3, a4⟩, g, e, hg⟩ := H
  exact ⟨⟨a1, a2, a3, by omega⟩, g, he.trans e, hg⟩
def mObj (S : cS) (th : Int32) : mE := .inr (.inr (6, [.ref 28, .ref 33, .int S.2.1, .int S.2.2.1, .int S.2.2.2.1, .int S.2.2.2.2, .int th]))
def mRows (h : mH) (n : Nat) (S : cS) (kx sx : Nat → Nat) : Prop := (∃ g : Nat → Option Nat, h 28 = .inr (.inl (3, 4, g)) ∧ ∀ r, r < 4 → g r = some (kx r)) ∧ (∃ g : Nat → Option Nat, h 33 = .inr (.inl (3, 4, g)) ∧ ∀ r, r < 4 → g r = some (sx r)) ∧ (∀ r, r < 4 → aAt h n (kx r) (S.1 r).length (xk (S.1 r))) ∧ (∀ r, r < 4 → aAt h n (sx r) (S.1 r).length (xt (S.1 r))) ∧ (∀ r q, r < 4 → q < 4 → kx r ≠ sx q) ∧ (∀ r q, r < 4 → q < 4 → r ≠ q → kx r ≠ kx q ∧ sx r ≠ sx q) ∧ (∀ r, r < 4 → (S.1 r).length ≤ rroom r)
/-- the reference's object with its cells: 27, 28, 33 and eight arrays somewhere behind -/
def mAt (h : mH) (n : Nat) (S : cS) (th : Int32) : Prop := h 27 = mObj S th ∧ 39 ≤ n ∧ ∃ kx sx, mRows h n S kx sx
theorem mRows.fr {h h' : mH} {n n' : Nat} {S : cS} {kx sx : Nat → Nat} (H : mRows h n S kx sx) (hn : n ≤ n') (hf : ∀ j, 28 ≤ j → j ≠ 38 → j < n → h' j = h j) (h39 : 39 ≤ n) : mRows h' n' S kx sx := by
  obtain ⟨⟨g1, a1, a2⟩, ⟨g2, b1, b2⟩, c1, c2, c3, c4, c5⟩ := H
  refine ⟨⟨g1, (hf 28 (by omega) (by omega) (by omega)).trans a1, a2⟩, ⟨g2, (hf 33 (by omega) (by omega) (by omega)).trans b1, b2⟩, fun r hr => ?_, fun r hr => ?_, c3, c4, c5⟩
  · have z := (c1 r hr).1; exact (c1 r hr).fr hn (hf _ (by omega) (by omega) (by omega))
  · have z := (c2 r hr).1; exact (c2 r hr).fr hn (hf _ (by omega) (by omega) (by omega))
/-- a row gets two new arrays -/
theorem mRows.upd {h h' : mH} {n n' r a b : Nat} {S : cS} {kx sx : Nat → Nat} {ys : List mIt} {g1 g2 : Nat → Option Nat} {fk fs : Nat → Int32} (H : mRows h n S kx sx) (h39 : 39 ≤ n) (hn : n ≤ n') (hr : r < 4) (ha : n ≤ a ∧ a < n') (hb : n ≤ b ∧ b < n') (hab : a ≠ b)
    (e1 : h' 28 = .inr (.inl (3, 4, g1))) (g1r : g1 r = some a) (g1q : ∀ q, q < 4 → q ≠ r → g1 q = some (kx q)) (e2 : h' 33 = .inr (.inl (3, 4, g2))) (g2r : g2 r = some b) (g2q : ∀ q, q < 4 → q ≠ r → g2 q = some (sx q))
    (ea : h' a = .inl (0, ys.length, fk)) (eb : h' b = .inl (0, ys.length, fs)) (hk : ∀ i, i < ys.length → fk i = xk ys i) (hs : ∀ i, i < ys.length → fs i = xt ys i) (hl : ys.length ≤ rroom r) (hf : ∀ j, 28 < j → j ≠ 33 → j ≠ 38 → j < n → h' j = h j) : mRows h' n' (cSet S r ys) (fun q => if q = r then a else kx q) (fun q => if q = r then b else sx q) := by
  obtain ⟨-, -, c1, c2, c3, c4, c5⟩ := H
  have bk : ∀ q, q < 4 → 28 < kx q ∧ kx q ≠ 33 ∧ kx q ≠ 38 ∧ kx q < n := fun q hq => (c1 q hq).1
  have bs : ∀ q, q < 4 → 28 < sx q ∧ sx q ≠ 33 ∧ sx q ≠ 38 ∧ sx q < n := fun q hq => (c2 q hq).1
  refine ⟨⟨g1, e1, fun q hq => ?_⟩, ⟨g2, e2, fun q hq => ?_⟩, fun q hq => ?_, fun q hq => ?_, fun q w hq hw => ?_, fun q w hq hw hne => ?_, fun q hq => ?_⟩
  · by_cases z : q = r
    · subst z; show g1 q = some (if q = q then a else kx q); rw [if_pos rfl]; exact g1r
    · show g1 q = some (if q = r then a else kx q); rw [if_neg z]; exact g1q q hq z
  · by_cases z : q = r
    · subst z; show g2 q = some (if q = q then b else sx q); rw [if_pos rfl]; exact g2r
    · show g2 q = some (if q = r then b else sx q); rw [if_neg z]; exact g2q q hq z
  · by_cases z : q = r
    · subst z
      simp only [cSet, if_pos]
      exact ⟨⟨by omega, by omega, by omega, by omega⟩, fk, ea, hk⟩
    · simp only [cSet, if_neg z]
      have y := bk q hq
      exact (c1 q hq).fr hn (hf _ (by omega) (by omega) (by omega) (by omega))
  · by_cases z : q = r
    · subst z
      simp only [cSet, if_pos]
      exact ⟨⟨by omega, by omega, by omega, by omega⟩, fs, eb, hs⟩
    · simp only [cSet, if_neg z]
      have y := bs q hq
      exact (c2 q hq).fr hn (hf _ (by omega) (by omega) (by omega) (by omega))
  · have y1 := bk q hq
    have y2 := bs w hw
    have y3 := c3 q w hq hw
    show (if q = r then a else kx q) ≠ (if w = r then b else sx w)
    split <;> split <;> omega
  · have y1 := bk q hq
    have y2 := bs w hw
    have y1' := bk w hw
    have y2' := bs q hq
    have y3 := c4 q w hq hw hne
    constructor
    · show (if q = r then a else kx q) ≠ (if w = r then a else kx w)
      split <;> split <;> omega
    · show (if q = r then b else sx q) ≠ (if w = r then b else sx w)
      split <;> split <;> omega
  · by_cases z : q = r
    · subst z; simp only [cSet, if_pos]; exact hl
    · simp only [cSet, if_neg z]; exact c5 q hq
/-- a row's own two arrays have changed -/
theorem mRows.put {h h' : mH} {n n' r : Nat} {S : cS} {kx sx : Nat → Nat} {ys : List mIt} {fk fs : Nat → Int32} (H : mRows h n S kx sx) (h39 : 39 ≤ n) (hn : n ≤ n') (hr : r < 4) (hy : ys.length = (S.1 r).length) (ea : h' (kx r) = .inl (0, ys.length, fk)) (eb : h' (sx r) = .inl (0, ys.length, fs)) (hk : ∀ i, i < ys.length → fk i = xk ys i) (hs : ∀ i, i < ys.length → fs i = xt ys i) (hf : ∀ j, 28 ≤ j → j ≠ 38 → j ≠ kx r → j ≠ sx r → j < n → h' j = h j) : mRows h' n' (cSet S r ys) kx sx := by
  obtain ⟨⟨g1, a1, a2⟩, ⟨g2, b1, b2⟩, c1, c2, c3, c4, c5⟩ := H
  have bk : ∀ q, q < 4 → 28 < kx q ∧ kx q ≠ 33 ∧ kx q ≠ 38 ∧ kx q < n := fun q hq => (c1 q hq).1
  have bs : ∀ q, q < 4 → 28 < sx q ∧ sx q ≠ 33 ∧ sx q ≠ 38 ∧ sx q < n := fun q hq => (c2 q hq).1
  have y1 := bk r hr
  have y2 := bs r hr
  refine ⟨⟨g1, (hf 28 (by omega) (by omega) (by omega) (by omega) (by omega)).trans a1, a2⟩, ⟨g2, (hf 33 (by omega) (by omega) (by omega) (by omega) (by omega)).trans b1, b2⟩, fun q hq => ?_, fun q hq => ?_, c3, c4, fun q hq => ?_⟩
  · by_cases z : q = r
    · subst z
      simp only [cSet, if_pos]
      exact ⟨⟨y1.1, y1.2.1, y1.2.2.1, by omega⟩, fk, ea, hk⟩
    · simp only [cSet, if_neg z]
      have y := bk q hq
      have y3 := c3 q r hq hr
      have y4 := c4 q r hq hr z
      exact (c1 q hq).fr hn (hf _ (by omega) (by omega) (by omega) (by omega) (by omega))
  · by_cases z : q = r
    · subst z
      simp only [cSet, if_pos]
      exact ⟨⟨y2.1, y2.2.1, y2.2.2.1, by omega⟩, fs, eb, hs⟩
    · simp only [cSet, if_neg z]
      have y := bs q hq
      have y3 := c3 r q hr hq
      have y4 := c4 q r hq hr z
      exact (c2 q hq).fr hn (hf _ (by omega) (by omega) (by omega) (by omega) (by omega))
  · by_cases z : q = r
    · subst z; simp only [cSet, if_pos]; rw [hy]; exact c5 q hq
    · simp only [cSet, if_neg z]; exact c5 q hq
/-- what a call of the reference ends with: thrown tells the kind; cells below 27, and 38, are as they were -/
def mOk (o : Nat × Value × cS) (d : Value) (h : mH) (n : Nat) : Option Value → mH → Nat → Prop := fun v h' n' => v = some (if o.1 = 0 then o.2.1 else d) ∧ n ≤ n' ∧ mAt h' n' o.2.2 (nI o.1) ∧ ∀ j, (j < 27 ∨ j = 38) → h' j = h j
theorem mOk.of {o : Nat × Value × cS} {d : Value} {h h' : mH} {n n' : Nat} {x : Value} {S' : cS} {v : Option Value} {kx sx : Nat → Nat} (ho : o = (0, x, S')) (hv : v = some x) (hn : n ≤ n') (hc : h' 27 = mObj S' (nI 0)) (h39 : 39 ≤ n') (hR : mRows h' n' S' kx sx) (hf : ∀ j, (j < 27 ∨ j = 38) → h' j = h j) : mOk o d h n v h' n' := by
  subst ho
  exact ⟨hv, hn, ⟨hc, h39, kx, sx, hR⟩, hf⟩
theorem mOk.no {o : Nat × Value × cS} {d : Value} {h h' : mH} {n n' k : Nat} {S' : cS} {v : Option Value} {kx sx : Nat → Nat} (ho : o = (k, .null, S')) (hk : k ≠ 0) (hv : v = some d) (hn : n ≤ n') (hc : h' 27 = mObj S' (nI k)) (h39 : 39 ≤ n') (hR : mRows h' n' S' kx sx) (hf : ∀ j, (j < 27 ∨ j = 38) → h' j = h j) : mOk o d h n v h' n' := by
  subst ho
  exact ⟨by rw [if_neg hk]; exact hv, hn, ⟨hc, h39, kx, sx, hR⟩, hf⟩
theorem inR_in {k : Nat} {x : Int32} (hk : k < 2 ^ 30) : inR x (nI 0) (nI k) = (inN (k + 1) x).isSome := by
  rcases hq : inN (k + 1) x with _ | j
  · rw [inR_f hq hk]; rfl
  · obtain ⟨hj, rfl⟩ := inN_of hq (by omega)
    rw [inR_t hj hk]; rfl
theorem arr_step {g F : Nat → Int32} {m : Nat} {v : Int32} (hg : ∀ i, i < m → g i = F i) (hv : v = F m) : ∀ i, i < m + 1 → upd g m v i = F i := by
  intro i hi
  unfold upd
  by_cases q : i = m
  · subst q; rw [if_pos rfl]; exact hv
  · rw [if_neg q]; exact hg i (by omega)
def th3 (t f : Bool) : Int32 := if t = false then nI 1 else if f = false then nI 2 else nI 0
def sideF (x y : Int32) : Int32 := if x < y then -1 else if x = y then nI 0 else nI 1
def mpat (p k m : Nat) (a : Int32) (b : Nat) : Int32 := match p with
  | 0 => a
  | 1 => a + nI (k * b)
  | 2 => a - nI (k * b)
  | 3 => a + nI (k % b)
  | 4 => a + (if k / b % 2 = 0 then nI (k % b) else nI (b - 1 - k % b))
  | 5 => a + nI (b * min k (m - 1 - k))
  | _ => if k % 2 = 0 then a + nI (k / 2) else a + nI b - nI (k / 2)
def bothF (la : Nat) (f g : Nat → Int32) (i : Nat) : Int32 := if i < la then f i else g (i - la)
def madeF (r : Nat) (g : Int32) (i : Nat) : Int32 := if 1 < r then -1 else g + nI i
def madeG (r m : Nat) (g : Int32) : Int32 := if 1 < r then g else g + nI m
def unlF (f g : Nat → Int32) (k : Nat) (acc : Int32) : Int32 := acc + (if f k = g k then nI 0 else nI 1)
/-- ends: a new array at n, content F -/
def mArr (len : Nat) (F : Nat → Int32) (h : mH) (n : Nat) : Option Value → mH → Nat → Prop := fun v h' n' => v = some (.ref n) ∧ n' = n + 1 ∧ (∃ g : Nat → Int32, h' n = .inl (0, len, g) ∧ ∀ i, i < len → g i = F i) ∧ ∀ j, j ≠ n → h' j = h j
def rkS (xs : List mIt) (i : Nat) (j acc : Nat) : Nat := if xk xs j < xk xs i ∨ (j < i ∧ xk xs j = xk xs i) then acc + 1 else acc
theorem rankf_lt {xs : List mIt} {k : Nat} (hk : k < xs.length) : rankf xs k < xs.length := by
  have hle : ∀ j a, rkS xs k j a ≤ a + 1 := fun j a => by unfold rkS; split <;> omega
  have h : ∀ (d i acc : Nat), i ≤ k → k < i + d → mlp (rkS xs k) d i acc + 1 ≤ acc + d := by
    intro d
    induction d with
    | zero => intro i acc h1 h2; omega
    | succ d ih =>
      intro i acc h1 h2
      show mlp (rkS xs k) d (i + 1) (rkS xs k i acc) + 1 ≤ _
      by_cases q : i = k
      · subst q
        have e : rkS xs i i acc = acc := by
          unfold rkS
          rw [if_neg]
          rintro (z | z)
          · exact Int32.lt_irrefl z
          · omega
        rw [e]
        have := @mlp_le _ hle d (i + 1) acc
        omega
      · have h3 := hle i acc
        have := ih (i + 1) (rkS xs k i acc) (by omega) (by omega)
        omega
  have := h (xs.length - 0) 0 0 (by omega) (by omega)
  show mlp (rkS xs k) (xs.length - 0) 0 0 < _
  omega
def prS (xs : List mIt) (how : Int32) (k o : Nat) (acc : Int32) : Int32 := acc + (if sideF (xk xs o) (xk xs k) = how then nI 1 else nI 0)
def mq_pairs (xs : List mIt) (how : Int32) : Int32 := mlp (fun k acc => mlp (prS xs how k) (k - 0) 0 acc) (xs.length - 0) 0 (nI 0)
def ofS (xs : List mIt) (key how : Int32) (i : Nat) (acc : Int32) : Int32 := acc + (if sideF (xk xs i) key = how then nI 1 else nI 0)
def mq_often (xs : List mIt) (key how : Int32) : Int32 := mlp (ofS xs key how) (xs.length - 0) 0 (nI 0)
def mq_isNew (xs : List mIt) (p : Nat) : Bool := mall (fun k => decide (¬ xk xs k = xk xs p)) (p - 0) 0
def scS (xs : List mIt) (k : Nat) (p : Nat → Nat) : Nat → Nat := fun i => if i = rankf xs k then k else p i
/-- at each place the place of the item that stands there in the sorted row -/
def scat (xs : List mIt) : Nat → Nat := mlp (scS xs) (xs.length - 0) 0 (fun _ => 0)
theorem scat_lt {xs : List mIt} (h0 : 0 < xs.length) (i : Nat) : scat xs i < xs.length := by
  have h : ∀ (d k : Nat) (p : Nat → Nat), k + d ≤ xs.length → (∀ i, p i < xs.length) → ∀ i, mlp (scS xs) d k p i < xs.length := by
    intro d
    induction d with
    | zero => intro k p _ hp; exact hp
    | succ d ih =>
      intro k p hk hp
      refine ih (k + 1) (scS xs k p) (by omega) (fun i => ?_)
      unfold scS
      split
      · omega
      · exact hp i
  exact h _ _ _ (by omega) (fun _ => h0) i
def chF (xs : List mIt) (pl : Nat → Nat) (n : Nat) : List mIt := zipF (fun k => xk xs (pl k)) (fun k => xt xs (pl k)) n
def comF (q r len : Nat) (xs : List mIt) (g : Int32) (i : Nat) : Int32 := if 1 < q ∨ 1 < r then madeF q g i else xt xs i
def comG (q r len : Nat) (g : Int32) : Int32 := if 1 < q ∨ 1 < r then madeG q len g else g
theorem swp_len {xs : List mIt} {i j : Nat} : (swp xs i j).length = xs.length := by unfold swp; rw [List.length_set, List.length_set]
theorem swp_k {xs : List mIt} {i j : Nat} {f : Nat → Int32} (hi : i < xs.length) (hj : j < xs.length) (hk : ∀ k, k < xs.length → f k = xk xs k) : ∀ k, k < xs.length → upd (upd f i (xk xs j)) j (xk xs i) k = xk (swp xs i j) k := by
  intro k hk'
  rw [swp, xk_put (by rw [List.length_set]; exact hj), xk_put hi]
  unfold upd
  by_cases q : k = j
  · simp [q]
  · by_cases q2 : k = i
    · simp [q, q2]
    · simp [q, q2, hk k hk']
theorem swp_t {xs : List mIt} {i j : Nat} {f : Nat → Int32} (hi : i < xs.length) (hj : j < xs.length) (hk : ∀ k, k < xs.length → f k = xt xs k) : ∀ k, k < xs.length → upd (upd f i (xt xs j)) j (xt xs i) k = xt (swp xs i j) k := by
  intro k hk'
  rw [swp, xt_put (by rw [List.length_set]; exact hj), xt_put hi]
  unfold upd
  by_cases q : k = j
  · simp [q]
  · by_cases q2 : k = i
    · simp [q, q2]
    · simp [q, q2, hk k hk']
theorem set_k {xs : List mIt} {i : Nat} {p : mIt} {f : Nat → Int32} (hi : i < xs.length) (hk : ∀ k, k < xs.length → f k = xk xs k) : ∀ k, k < xs.length → upd f i p.1 k = xk (xs.set i p) k := by
  intro k hk'
  rw [xk_put hi]
  unfold upd
  by_cases q : k = i
  · simp [q]
  · simp [q, hk k hk']
theorem set_t {xs : List mIt} {i : Nat} {p : mIt} {f : Nat → Int32} (hi : i < xs.length) (hk : ∀ k, k < xs.length → f k = xt xs k) : ∀ k, k < xs.length → upd f i p.2 k = xt (xs.set i p) k := by
  intro k hk'
  rw [xt_put hi]
  unfold upd
  by_cases q : k = i
  · simp [q]
  · simp [q, hk k hk']
theorem inR1_f {x : Int32} (h : x < 1 ∨ nI 99 < x) : inR x (nI 1) (nI 99) = false := by
  unfold inR
  rcases h with h | h
  · rw [decide_eq_true (show x < nI 1 from h)]; rfl
  · rw [decide_eq_true h, Bool.not_true, Bool.and_false]
theorem inR1_t {p : Nat} (h : p < 100) (h0 : 0 < p) : inR (nI p) (nI 1) (nI 99) = true := by
  unfold inR
  rw [decide_eq_false (nI_nlt (a := p) (b := 1) (by omega) (by omega)), decide_eq_false (nI_nlt (a := 99) (b := p) (by omega) (by decide))]
  rfl
def wAt (xs : List mIt) (p k : Nat) (acc : Int32) : Int32 := acc + (if (k < p ∧ xk xs p < xk xs k) ∨ (p < k ∧ xk xs k < xk xs p) then nI 1 else nI 0)
def mruns (xs : List mIt) : Nat → Nat → Int32 → Int32
  | 0, _, acc => acc
  | d + 1, k, acc => if k < xs.length then mruns xs d (q_endOfRun xs k) (acc + 1) else acc
theorem mruns_go {xs : List mIt} {k : Nat} {acc r : Int32} (h : k < xs.length) (hr : ∃ d, xs.length ≤ k + d ∧ mruns xs d k acc = r) : ∃ d, xs.length ≤ (k + (q_endOfRun xs k - k)) + d ∧ mruns xs d (k + (q_endOfRun xs k - k)) (acc + 1) = r := by
  obtain ⟨d, h1, h2⟩ := hr
  have e1 : k + 1 ≤ q_endOfRun xs k := (@erun_le xs (xs.length - (k + 1)) (k + 1)).1
  have e2 : k + (q_endOfRun xs k - k) = q_endOfRun xs k := by omega
  match d, h1, h2 with
  | 0, h1, h2 => omega
  | d + 1, h1, h2 =>
    rw [mruns, if_pos h] at h2
    exact ⟨d, by omega, by rw [e2]; exact h2⟩
theorem mruns_end {xs : List mIt} {k : Nat} {acc r : Int32} (h : ¬ k < xs.length) (hr : ∃ d, xs.length ≤ k + d ∧ mruns xs d k acc = r) : acc = r := by
  obtain ⟨d, h1, h2⟩ := hr
  match d, h1, h2 with
  | 0, h1, h2 => exact h2
  | d + 1, h1, h2 =>
    rw [mruns, if_neg h] at h2
    exact h2
def lgS (xs : List mIt) (k m : Nat) : Nat := max m (q_endOfRun xs k - k)
theorem endOfRun_le {xs : List mIt} {k : Nat} (h : k < xs.length) : k + 1 ≤ q_endOfRun xs k ∧ q_endOfRun xs k ≤ xs.length := by
  have := @erun_le xs (xs.length - (k + 1)) (k + 1)
  exact ⟨this.1, by have := this.2; show erun xs _ _ ≤ _; omega⟩
def fsS (xs : List mIt) (key : Int32) (isLast : Bool) (k : Nat) (its : Int32) : Int32 := if xk xs k = key ∧ (isLast = true ∨ its = -1) then nI k else its
def enS (xs : List mIt) (b : Bool) (i : Nat) (its : Int32) : Int32 := if its = (-100000) then xk xs i else if b = false then (if xk xs i < its then xk xs i else its) else (if its < xk xs i then xk xs i else its)
def ulS (xs : List mIt) (k : Nat) (acc : Int32) : Int32 := acc + (if mq_isNew xs k = true then nI 1 else nI 0)
def moS (xs : List mIt) (i : Nat) (p : Int32 × Int32) : Int32 × Int32 := if mq_often xs (xk xs i) (nI 0) < p.2 then p else if mq_often xs (xk xs i) (nI 0) = p.2 then (if xk xs i < p.1 then (xk xs i, mq_often xs (xk xs i) (nI 0)) else p) else (xk xs i, mq_often xs (xk xs i) (nI 0))
def suS (xs : List mIt) (i : Nat) (acc : Int32) : Int32 := acc + xk xs i
def bgS (xs ys : List mIt) (i : Nat) (is : Bool) : Bool := is && decide (mq_often xs (xk xs i) (nI 0) = mq_often ys (xk xs i) (nI 0))
def mhS (S : cS) (i : Nat) (p : Nat × Int32) : Nat × Int32 := (p.1 + (S.1 i).length, p.2 + (if mq_pairs (S.1 i) (nI 1) = 0 then nI 1 else nI 0))
def mhF (S : cS) : Nat × Int32 := mlp (mhS S) (4 - 0) 0 (0, nI 0)
def mq_house (S : cS) (w : Nat) : Int32 := match w with
  | 0 => nI (mhF S).1
  | 1 => S.2.2.1
  | 2 => S.2.2.2.1
  | 3 => S.2.2.2.2
  | 4 => S.2.1
  | _ => (mhF S).2
/-- .. of the reference's house: kind 1 where there is no such number -/
def mp_house (S : cS) (what : Int32) : Nat × Value × cS := match inN 6 what with
  | none => (1, .null, S)
  | some w => (0, .int (mq_house S w), S)
theorem mp_house_s {S : cS} {w : Nat} (h : w < 6) : mp_house S (nI w) = (0, .int (mq_house S w), S) := by unfold mp_house; rw [inN_some h (by decide)]
theorem mp_house_n {S : cS} {x : Int32} (h : inN 6 x = none) : mp_house S x = (1, .null, S) := by unfold mp_house; rw [h]
theorem mOk.use {o : Nat × Value × cS} {d : Value} {h h' : mH} {n n' : Nat} {x : Value} {S' : cS} {v : Option Value} (hc : mOk o d h n v h' n') (ho : o = (0, x, S')) : v = some x ∧ n ≤ n' ∧ mAt h' n' S' (nI 0) ∧ ∀ j, (j < 27 ∨ j = 38) → h' j = h j := by
  subst ho
  exact hc
/-- .. of a question: of what was there, the object alone has changed -/
def mOkq (o : Nat × Value × cS) (d : Value) (h : mH) (n : Nat) : Option Value → mH → Nat → Prop := fun v h' n' => v = some (if o.1 = 0 then o.2.1 else d) ∧ n ≤ n' ∧ mAt h' n' o.2.2 (nI o.1) ∧ ∀ j, (j < n ∧ j ≠ 27) → h' j = h j
theorem mOkq.of {o : Nat × Value × cS} {d : Value} {h h' : mH} {n n' : Nat} {x : Value} {S' : cS} {v : Option Value} {kx sx : Nat → Nat} (ho : o = (0, x, S')) (hv : v = some x) (hn : n ≤ n') (hc : h' 27 = mObj S' (nI 0)) (h39 : 39 ≤ n') (hR : mRows h' n' S' kx sx) (hf : ∀ j, (j < n ∧ j ≠ 27) → h' j = h j) : mOkq o d h n v h' n' := by
  subst ho
  exact ⟨hv, hn, ⟨hc, h39, kx, sx, hR⟩, hf⟩
theorem mOkq.no {o : Nat × Value × cS} {d : Value} {h h' : mH} {n n' k : Nat} {S' : cS} {v : Option Value} {kx sx : Nat → Nat} (ho : o = (k, .null, S')) (hk : k ≠ 0) (hv : v = some d) (hn : n ≤ n') (hc : h' 27 = mObj S' (nI k)) (h39 : 39 ≤ n') (hR : mRows h' n' S' kx sx) (hf : ∀ j, (j < n ∧ j ≠ 27) → h' j = h j) : mOkq o d h n v h' n' := by
  subst ho
  exact ⟨by rw [if_neg hk]; exact hv, hn, ⟨hc, h39, kx, sx, hR⟩, hf⟩
theorem mOkq.use {o : Nat × Value × cS} {d : Value} {h h' : mH} {n n' : Nat} {x : Value} {S' : cS} {v : Option Value} (hc : mOkq o d h n v h' n') (ho : o = (0, x, S')) : v = some x ∧ n ≤ n' ∧ mAt h' n' S' (nI 0) ∧ ∀ j, (j < n ∧ j ≠ 27) → h' j = h j := by
  subst ho
  exact hc
theorem mOkq.ok {o : Nat × Value × cS} {d : Value} {h h' : mH} {n n' : Nat} {v : Option Value} (h39 : 39 ≤ n) (hc : mOkq o d h n v h' n') : mOk o d h n v h' n' := ⟨hc.1, hc.2.1, hc.2.2.1, fun j hj => hc.2.2.2 j (by omega)⟩
def mdA (S : cS) (i : Nat) (k : Nat) : Int32 := match k with
  | 0 => nI (S.1 i).length
  | 1 => q_mark (S.1 i) false
  | 2 => q_mark (S.1 i) true
  | 3 => mq_pairs (S.1 i) (nI 1)
  | 4 => mq_pairs (S.1 i) (nI 0)
  | 5 => mruns (S.1 i) (S.1 i).length 0 (nI 0)
  | 6 => nI (mlp (lgS (S.1 i)) ((S.1 i).length - 0) 0 0)
  | 7 => mlp (suS (S.1 i)) ((S.1 i).length - 0) 0 (nI 0)
  | _ => mlp (ulS (S.1 i)) ((S.1 i).length - 0) 0 (nI 0)
def mdS (S : cS) (i k : Nat) (d : Int64) : Int64 := d * 31 + (mdA S i k).toInt64
def mdRow (S : cS) (i : Nat) (d : Int64) : Int64 := mlp (mdS S i) (9 - 0) 0 d
def mdHouse (S : cS) (w : Nat) (d : Int64) : Int64 := d * 31 + (mq_house S w).toInt64
def mq_digest (S : cS) : Int64 := mlp (mdHouse S) (6 - 0) 0 (mlp (mdRow S) (4 - 0) 0 8007) * 31 + 1
theorem va_rf_up {g : Nat → Option Nat} {i a : Nat} : va_rf (va_up g i (some a) i) = .ref a := by unfold va_up; rw [if_pos rfl]; rfl
theorem cSet_s {S : cS} {r : Nat} {ys : List mIt} : (cSet S r ys).1 r = ys := if_pos rfl
theorem chF_l {xs : List mIt} {pl : Nat → Nat} {n : Nat} : (chF xs pl n).length = n := zipF_len
def drF (p i : Nat) : Nat := if i < p then i else i + 1
def tnF (L i : Nat) : Nat := L - 1 - i
def rlF (b L i : Nat) : Nat := (i + b) % L
/-- a row with another's keys f and stamps g behind it -/
def jnL (xs : List mIt) (f g : Nat → Int32) (m : Nat) : List mIt := zipF (bothF xs.length (xk xs) f) (bothF xs.length (xt xs) g) (xs.length + m)
theorem jnL_len {xs : List mIt} {f g : Nat → Int32} {m : Nat} : (jnL xs f g m).length = xs.length + m := zipF_len
theorem both_eq {la lb : Nat} {f1 f2 F G : Nat → Int32} (h1 : ∀ i, i < la → f1 i = F i) (h2 : ∀ i, i < lb → f2 i = G i) : ∀ i, i < la + lb → bothF la f1 f2 i = bothF la F G i := by
  intro i hi
  unfold bothF
  by_cases q : i < la
  · rw [if_pos q, if_pos q]; exact h1 i q
  · rw [if_neg q, if_neg q]; exact h2 _ (by omega)
theorem jn_k {xs : List mIt} {f g fk kf f2 : Nat → Int32} {m : Nat} (hd : ∀ i, i < xs.length + m → fk i = bothF xs.length kf f2 i) (h1 : ∀ i, i < xs.length → kf i = xk xs i) (h2 : ∀ i, i < m → f2 i = f i) : ∀ i, i < (jnL xs f g m).length → fk i = xk (jnL xs f g m) i := by
  intro i hi
  rw [jnL_len] at hi
  rw [hd i hi, both_eq h1 h2 i hi]
  exact (xk_zip hi).symm
theorem jn_t {xs : List mIt} {f g fk kf g2 : Nat → Int32} {m : Nat} (hd : ∀ i, i < xs.length + m → fk i = bothF xs.length kf g2 i) (h1 : ∀ i, i < xs.length → kf i = xt xs i) (h2 : ∀ i, i < m → g2 i = g i) : ∀ i, i < (jnL xs f g m).length → fk i = xt (jnL xs f g m) i := by
  intro i hi
  rw [jnL_len] at hi
  rw [hd i hi, both_eq h1 h2 i hi]
  exact (xt_zip hi).symm
theorem zip_k {f g fk : Nat → Int32} {n : Nat} (h : ∀ i, i < n → fk i = f i) : ∀ i, i < (zipF f g n).length → fk i = xk (zipF f g n) i := by
  intro i hi
  rw [zipF_len] at hi
  rw [h i hi]; exact (xk_zip hi).symm
theorem zip_t {f g fk : Nat → Int32} {n : Nat} (h : ∀ i, i < n → fk i = g i) : ∀ i, i < (zipF f g n).length → fk i = xt (zipF f g n) i := by
  intro i hi
  rw [zipF_len] at hi
  rw [h i hi]; exact (xt_zip hi).symm
def srS (xs ys : List mIt) (k : Nat) (acc : Int32) : Int32 := acc + (if xk xs k = xk ys k ∧ xt xs k = xt ys k then nI 0 else nI 1)
def drs (x : Int32) : Nat → Int32
  | 0 => x
  | k + 1 => drw (drs x k)
def flF (p m : Nat) (a : Int32) (b : Nat) (i : Nat) : Int32 := if p = 7 then drk (drs (drx a b) (i + 1)) else mpat p i m a b
theorem mRows.upz {h h' : mH} {n n' r a b : Nat} {S : cS} {kx sx : Nat → Nat} {ys : List mIt} {g1 g2 : Nat → Option Nat} {fk fs : Nat → Int32} {L : Nat} (H : mRows h n S kx sx) (hL : ys.length = L) (h39 : 39 ≤ n) (hn : n ≤ n') (hr : r < 4) (ha : n ≤ a ∧ a < n') (hb : n ≤ b ∧ b < n') (hab : a ≠ b)
    (e1 : h' 28 = .inr (.inl (3, 4, va_up g1 r (some a)))) (g1q : ∀ q, q < 4 → q ≠ r → va_up g1 r (some a) q = some (kx q)) (e2 : h' 33 = .inr (.inl (3, 4, va_up g2 r (some b)))) (g2q : ∀ q, q < 4 → q ≠ r → va_up g2 r (some b) q = some (sx q))
    (ea : h' a = .inl (0, L, fk)) (eb : h' b = .inl (0, L, fs)) (hk : ∀ i, i < ys.length → fk i = xk ys i) (hs : ∀ i, i < ys.length → fs i = xt ys i) (hl : L ≤ rroom r) (hf : ∀ j, 28 < j → j ≠ 33 → j ≠ 38 → j < n → h' j = h j) : ∃ k9 s9, mRows h' n' (cSet S r ys) k9 s9 := by
  subst hL
  exact ⟨_, _, mRows.upd H h39 hn hr ha hb hab e1 (if_pos rfl) g1q e2 (if_pos rfl) g2q ea eb hk hs hl hf⟩
theorem mOk.ofE {o : Nat × Value × cS} {d : Value} {h h' : mH} {n n' : Nat} {x : Value} {S' : cS} {v : Option Value} (ho : o = (0, x, S')) (hv : v = some x) (hn : n ≤ n') (hc : h' 27 = mObj S' (nI 0)) (h39 : 39 ≤ n') (hR : ∃ kx sx, mRows h' n' S' kx sx) (hf : ∀ j, (j < 27 ∨ j = 38) → h' j = h j) : mOk o d h n v h' n' := by
  obtain ⟨kx, sx, hR⟩ := hR
  exact mOk.of ho hv hn hc h39 hR hf
theorem cSet_cSet {S : cS} {r : Nat} {a b : List mIt} : cSet (cSet S r a) r b = cSet S r b := by
  unfold cSet
  have e : (fun k => if k = r then b else (if k = r then a else S.1 k)) = (fun k => if k = r then b else S.1 k) := by
    funext k
    by_cases q : k = r
    · rw [if_pos q, if_pos q]
    · rw [if_neg q, if_neg q, if_neg q]
  show ((fun k => if k = r then b else (if k = r then a else S.1 k)), S.2) = _
  rw [e]

/-! ===== the reference: its small methods ===== -/
abbrev rX4_isIn : Room := { frames := 0, cells := 0, slots := 0, locals := 0 }
set_option maxRecDepth 100000 in
set_option maxHeartbeats 2000000 in
theorem kX4_isIn {l : Launch} (hl : l.stackTraces = false) {h : mH} {n : Nat} {v a b : Int32}  : mC l mX4_isIn rX4_isIn [.int v, .int a, .int b] h n (mRi (mb (inR v a b)) h n) (mNX) := by
  refine mm_enter hl (by decide +kernel) rfl rfl rfl (Nat.le_of_ble_eq_true rfl) ?_
  show mT _ _ _ _ 0 [.int v, .int a, .int b] [] _ _ 0 0
  refine mt_iload_n dX4_isIn_0 rfl ?_
  refine mt_iload_n dX4_isIn_1 rfl ?_
  refine mt_icmp_lt dX4_isIn_2 (tgt := 14) rfl (fun q1 => ?_) (fun q1 => ?_)
  · refine mt_iconst dX4_isIn_14 (v := nI 0) rfl ?_
    refine mt_ireturn dX4_isIn_15 rfl rfl (Nat.le_of_ble_eq_true rfl) (Nat.le_of_ble_eq_true rfl) ?_
    exact ⟨congrArg (fun b => some (Value.int (mb b))) (show false = inR v a b from by simp [inR, decide_eq_true q1]), rfl, rfl⟩
  · refine mt_iload_n dX4_isIn_5 rfl ?_
    refine mt_iload_n dX4_isIn_6 rfl ?_
    refine mt_icmp_gt dX4_isIn_7 (tgt := 14) rfl (fun q2 => ?_) (fun q2 => ?_)
    · refine mt_iconst dX4_isIn_14 (v := nI 0) rfl ?_
      refine mt_ireturn dX4_isIn_15 rfl rfl (Nat.le_of_ble_eq_true rfl) (Nat.le_of_ble_eq_true rfl) ?_
      exact ⟨congrArg (fun b => some (Value.int (mb b))) (show false = inR v a b from by simp [inR, decide_eq_false q1, decide_eq_true q2]), rfl, rfl⟩
    · refine mt_iconst dX4_isIn_10 (v := nI 1) rfl ?_
      refine mt_goto dX4_isIn_11 (tgt := 15) rfl ?_
      refine mt_ireturn dX4_isIn_15 rfl rfl (Nat.le_of_ble_eq_true rfl) (Nat.le_of_ble_eq_true rfl) ?_
      exact ⟨congrArg (fun b => some (Value.int (mb b))) (show true = inR v a b from by simp [inR, decide_eq_false q1, decide_eq_false q2]), rfl, rfl⟩
abbrev rX4_isRow : Room := { frames := 1, cells := 0, slots := 0, locals := 22 }
set_option maxRecDepth 100000 in
set_option maxHeartbeats 2000000 in
theorem kX4_isRow {l : Launch} (hl : l.stackTraces = false) {h : mH} {n : Nat} {row : Int32}  : mC l mX4_isRow rX4_isRow [.int row] h n (mRi (mb (inN 4 row).isSome) h n) (mNX) := by
  refine mm_enter hl (by decide +kernel) rfl rfl rfl (Nat.le_of_ble_eq_true rfl) ?_
  show mT _ _ _ _ 0 [.int row] [] _ _ 0 0
  refine mt_iload_n dX4_isRow_0 rfl ?_
  refine mt_iconst dX4_isRow_1 (v := nI 0) rfl ?_
  refine mt_iconst dX4_isRow_2 (v := nI 3) rfl ?_
  refine mt_callS (N := mX4_isIn) (Rc := rX4_isIn) (As := [.int row, .int (nI 0), .int (nI 3)]) (st := []) dX4_isRow_3 (kX4_isIn hl) sX4_isIn mw_1086 rfl (Nat.le_of_ble_eq_true rfl) ⟨⟨Nat.le_of_ble_eq_true rfl, Nat.le_of_ble_eq_true rfl⟩, Nat.le_of_ble_eq_true rfl, Nat.le_of_ble_eq_true rfl⟩ (fun v1 h2 n3 c4 => ?_) (fun _ _ _ hx => hx.elim)
  obtain ⟨c4a, c4b, c4c⟩ := c4
  rw [c4a, c4b, c4c]
  show mT _ _ _ _ 6 [.int row] [.int (mb (inR row (nI 0) (nI 3)))] _ _ _ _
  refine mt_ireturn dX4_isRow_6 rfl narrow_mb (Nat.le_of_ble_eq_true rfl) (Nat.le_of_ble_eq_true rfl) ?_
  exact ⟨congrArg (fun b => some (Value.int (mb b))) (inR_in (k := 3) (by decide)), rfl, rfl⟩
abbrev rX4_room : Room := { frames := 0, cells := 0, slots := 0, locals := 0 }
set_option maxRecDepth 100000 in
set_option maxHeartbeats 2000000 in
theorem kX4_room {l : Launch} (hl : l.stackTraces = false) {h : mH} {n : Nat} {r : Nat} (hr : r < 4) : mC l mX4_room rX4_room [.int (nI r)] h n (mRi (nI (rroom r)) h n) (mNX) := by
  refine mm_enter hl (by decide +kernel) rfl rfl rfl (Nat.le_of_ble_eq_true rfl) ?_
  show mT _ _ _ _ 0 [.int (nI r)] [] _ _ 0 0
  refine mt_iload_n dX4_room_0 rfl ?_
  refine mt_iconst dX4_room_1 (v := nI 3) rfl ?_
  refine mt_icmp_ne dX4_room_2 (tgt := 11) rfl (fun q1 => ?_) (fun q1 => ?_)
  · have q1 := (not_congr (nI_eq (by omega) (by omega))).mp q1
    refine mt_sipush dX4_room_11 (v := nI 150) (by decide) ?_
    refine mt_ireturn dX4_room_14 rfl rfl (Nat.le_of_ble_eq_true rfl) (Nat.le_of_ble_eq_true rfl) ?_
    exact ⟨by simp only [rroom, if_neg q1], rfl, rfl⟩
  · have q1 := (nI_eq (by omega) (by omega)).mp q1
    refine mt_sipush dX4_room_5 (v := nI 320) (by decide) ?_
    refine mt_goto dX4_room_8 (tgt := 14) rfl ?_
    refine mt_ireturn dX4_room_14 rfl rfl (Nat.le_of_ble_eq_true rfl) (Nat.le_of_ble_eq_true rfl) ?_
    exact ⟨by simp only [rroom, if_pos q1], rfl, rfl⟩
abbrev rX4_did : Room := { frames := 0, cells := 0, slots := 0, locals := 0 }
set_option maxRecDepth 100000 in
set_option maxHeartbeats 2000000 in
theorem kX4_did {l : Launch} (hl : l.stackTraces = false) {h : mH} {n k28 k33 : Nat} {g ac rf kn th : Int32} {x : Int32} (C0 : h 27 = .inr (.inr (6, [.ref k28, .ref k33, .int g, .int ac, .int rf, .int kn, .int th]))) : mC l mX4_did rX4_did [.ref 27, .int x] h n (fun v h' n' => v = some (.int (x)) ∧ n' = n ∧ h' 27 = .inr (.inr (6, [.ref k28, .ref k33, .int g, .int (ac + nI 1), .int rf, .int kn, .int th])) ∧ ∀ j, j ≠ 27 → h' j = h j) (mNX) := by
  refine mm_enter hl (by decide +kernel) rfl rfl rfl (Nat.le_of_ble_eq_true rfl) ?_
  show mT _ _ _ _ 0 [.ref 27, .int x] [] _ _ 0 0
  refine mt_aload_n dX4_did_0 rfl rfl ?_
  refine mt_dup dX4_did_1 rfl ?_
  refine mt_getfield mKX4 (i := 3) (by decide) mw_1056 dX4_did_2 C0 rfl ?_
  refine mt_iconst dX4_did_5 (v := nI 1) rfl ?_
  refine mp_iadd dX4_did_6 (v := ac + (nI 1)) rfl ?_
  refine mp_putfield mKX4 (i := 3) (fs' := [.ref k28, .ref k33, .int g, .int (ac + (nI 1)), .int rf, .int kn, .int th]) (by decide) mw_1056 rfl dX4_did_7 C0 (Nat.le_of_ble_eq_true rfl) rfl rfl (fun h1 e2 f3 => ?_)
  refine mt_iload_n dX4_did_10 rfl ?_
  refine mt_ireturn dX4_did_11 rfl rfl (Nat.le_of_ble_eq_true rfl) (Nat.le_of_ble_eq_true rfl) ?_
  exact ⟨rfl, rfl, e2, fun j hj => f3 j (by omega)⟩
abbrev rX4_refuse : Room := { frames := 0, cells := 0, slots := 0, locals := 0 }
set_option maxRecDepth 100000 in
set_option maxHeartbeats 2000000 in
theorem kX4_refuse {l : Launch} (hl : l.stackTraces = false) {h : mH} {n k28 k33 : Nat} {g ac rf kn th : Int32} (C0 : h 27 = .inr (.inr (6, [.ref k28, .ref k33, .int g, .int ac, .int rf, .int kn, .int th]))) : mC l mX4_refuse rX4_refuse [.ref 27] h n (fun v h' n' => v = some (.int (-9)) ∧ n' = n ∧ h' 27 = .inr (.inr (6, [.ref k28, .ref k33, .int g, .int ac, .int (rf + nI 1), .int kn, .int th])) ∧ ∀ j, j ≠ 27 → h' j = h j) (mNX) := by
  refine mm_enter hl (by decide +kernel) rfl rfl rfl (Nat.le_of_ble_eq_true rfl) ?_
  show mT _ _ _ _ 0 [.ref 27] [] _ _ 0 0
  refine mt_aload_n dX4_refuse_0 rfl rfl ?_
  refine mt_dup dX4_refuse_1 rfl ?_
  refine mt_getfield mKX4 (i := 4) (by decide) mw_1057 dX4_refuse_2 C0 rfl ?_
  refine mt_iconst dX4_refuse_5 (v := nI 1) rfl ?_
  refine mp_iadd dX4_refuse_6 (v := rf + (nI 1)) rfl ?_
  refine mp_putfield mKX4 (i := 4) (fs' := [.ref k28, .ref k33, .int g, .int ac, .int (rf + (nI 1)), .int kn, .int th]) (by decide) mw_1057 rfl dX4_refuse_7 C0 (Nat.le_of_ble_eq_true rfl) rfl rfl (fun h1 e2 f3 => ?_)
  refine mt_bipush dX4_refuse_10 (v := -9) (by decide) ?_
  refine mt_ireturn dX4_refuse_12 rfl rfl (Nat.le_of_ble_eq_true rfl) (Nat.le_of_ble_eq_true rfl) ?_
  exact ⟨rfl, rfl, e2, fun j hj => f3 j (by omega)⟩
abbrev rX4_isLet : Room := { frames := 0, cells := 0, slots := 0, locals := 0 }
set_option maxRecDepth 100000 in
set_option maxHeartbeats 2000000 in
theorem kX4_isLet {l : Launch} (hl : l.stackTraces = false) {h : mH} {n k28 k33 : Nat} {g ac rf kn th : Int32} {t f : Bool} (C0 : h 27 = .inr (.inr (6, [.ref k28, .ref k33, .int g, .int ac, .int rf, .int kn, .int th]))) : mC l mX4_isLet rX4_isLet [.ref 27, .int (mb (t)), .int (mb (f))] h n (fun v h' n' => v = some (.int (mb (t && f))) ∧ n' = n ∧ h' 27 = .inr (.inr (6, [.ref k28, .ref k33, .int g, .int ac, .int rf, .int kn, .int (th3 t f)])) ∧ ∀ j, j ≠ 27 → h' j = h j) (mNX) := by
  refine mm_enter hl (by decide +kernel) rfl rfl rfl (Nat.le_of_ble_eq_true rfl) ?_
  show mT _ _ _ _ 0 [.ref 27, .int (mb (t)), .int (mb (f))] [] _ _ 0 0
  refine mt_aload_n dX4_isLet_0 rfl rfl ?_
  refine mt_iload_n dX4_isLet_1 rfl ?_
  refine mt_if_ne dX4_isLet_2 (tgt := 9) rfl (fun q1 => ?_) (fun q1 => ?_)
  · have q1 : t = true := mb_1.mp q1
    refine mt_iload_n dX4_isLet_9 rfl ?_
    refine mt_if_ne dX4_isLet_10 (tgt := 17) rfl (fun q2 => ?_) (fun q2 => ?_)
    · have q2 : f = true := mb_1.mp q2
      refine mt_iconst dX4_isLet_17 (v := nI 0) rfl ?_
      refine mp_putfield mKX4 (i := 6) (fs' := [.ref k28, .ref k33, .int g, .int ac, .int rf, .int kn, .int (nI 0)]) (by decide) mw_1059 rfl dX4_isLet_18 C0 (Nat.le_of_ble_eq_true rfl) rfl rfl (fun h3 e4 f5 => ?_)
      refine mt_aload_n dX4_isLet_21 rfl rfl ?_
      refine mt_getfield mKX4 (i := 6) (by decide) mw_1059 dX4_isLet_22 e4 rfl ?_
      refine mt_if_ne dX4_isLet_25 (tgt := 32) rfl (fun q6 => ?_) (fun q6 => ?_)
      · have q6 := (not_congr (mI_eq0 (by omega))).mp q6
        exact absurd q6 (by decide)
      · have q6 := (mI_eq0 (by omega)).mp q6
        refine mt_iconst dX4_isLet_28 (v := nI 1) rfl ?_
        refine mt_goto dX4_isLet_29 (tgt := 33) rfl ?_
        refine mt_ireturn dX4_isLet_33 rfl rfl (Nat.le_of_ble_eq_true rfl) (Nat.le_of_ble_eq_true rfl) ?_
        exact ⟨congrArg (fun b => some (Value.int (mb b))) (show true = (t && f) from by simp [q1, q2, decide_eq_true q6]), rfl, (e4).trans (by simp only [th3, q1, q2, decide_eq_true q6, if_true, if_false, Bool.true_eq_false]), fun j hj => f5 j (by omega)⟩
    · have q2 : f = false := mb_0.mp q2
      refine mt_iconst dX4_isLet_13 (v := nI 2) rfl ?_
      refine mt_goto dX4_isLet_14 (tgt := 18) rfl ?_
      refine mp_putfield mKX4 (i := 6) (fs' := [.ref k28, .ref k33, .int g, .int ac, .int rf, .int kn, .int (nI 2)]) (by decide) mw_1059 rfl dX4_isLet_18 C0 (Nat.le_of_ble_eq_true rfl) rfl rfl (fun h7 e8 f9 => ?_)
      refine mt_aload_n dX4_isLet_21 rfl rfl ?_
      refine mt_getfield mKX4 (i := 6) (by decide) mw_1059 dX4_isLet_22 e8 rfl ?_
      refine mt_if_ne dX4_isLet_25 (tgt := 32) rfl (fun q10 => ?_) (fun q10 => ?_)
      · have q10 := (not_congr (mI_eq0 (by omega))).mp q10
        refine mt_iconst dX4_isLet_32 (v := nI 0) rfl ?_
        refine mt_ireturn dX4_isLet_33 rfl rfl (Nat.le_of_ble_eq_true rfl) (Nat.le_of_ble_eq_true rfl) ?_
        exact ⟨congrArg (fun b => some (Value.int (mb b))) (show false = (t && f) from by simp [q1, q2, decide_eq_false q10]), rfl, (e8).trans (by simp only [th3, q1, q2, decide_eq_false q10, if_true, if_false, Bool.true_eq_false]), fun j hj => f9 j (by omega)⟩
      · have q10 := (mI_eq0 (by omega)).mp q10
        exact absurd q10 (by decide)
  · have q1 : t = false := mb_0.mp q1
    refine mt_iconst dX4_isLet_5 (v := nI 1) rfl ?_
    refine mt_goto dX4_isLet_6 (tgt := 18) rfl ?_
    refine mp_putfield mKX4 (i := 6) (fs' := [.ref k28, .ref k33, .int g, .int ac, .int rf, .int kn, .int (nI 1)]) (by decide) mw_1059 rfl dX4_isLet_18 C0 (Nat.le_of_ble_eq_true rfl) rfl rfl (fun h11 e12 f13 => ?_)
    refine mt_aload_n dX4_isLet_21 rfl rfl ?_
    refine mt_getfield mKX4 (i := 6) (by decide) mw_1059 dX4_isLet_22 e12 rfl ?_
    refine mt_if_ne dX4_isLet_25 (tgt := 32) rfl (fun q14 => ?_) (fun q14 => ?_)
    · have q14 := (not_congr (mI_eq0 (by omega))).mp q14
      refine mt_iconst dX4_isLet_32 (v := nI 0) rfl ?_
      refine mt_ireturn dX4_isLet_33 rfl rfl (Nat.le_of_ble_eq_true rfl) (Nat.le_of_ble_eq_true rfl) ?_
      exact ⟨congrArg (fun b => some (Value.int (mb b))) (show false = (t && f) from by simp [q1, decide_eq_false q14]), rfl, (e12).trans (by simp only [th3, q1, decide_eq_false q14, if_true, if_false, Bool.true_eq_false]), fun j hj => f13 j (by omega)⟩
    · have q14 := (mI_eq0 (by omega)).mp q14
      exact absurd q14 (by decide)
abbrev rX4_side : Room := { frames := 0, cells := 0, slots := 0, locals := 0 }
set_option maxRecDepth 100000 in
set_option maxHeartbeats 2000000 in
theorem kX4_side {l : Launch} (hl : l.stackTraces = false) {h : mH} {n : Nat} {x y : Int32}  : mC l mX4_side rX4_side [.int x, .int y] h n (mRi (sideF x y) h n) (mNX) := by
  refine mm_enter hl (by decide +kernel) rfl rfl rfl (Nat.le_of_ble_eq_true rfl) ?_
  show mT _ _ _ _ 0 [.int x, .int y] [] _ _ 0 0
  refine mt_iload_n dX4_side_0 rfl ?_
  refine mt_iload_n dX4_side_1 rfl ?_
  refine mt_icmp_ge dX4_side_2 (tgt := 9) rfl (fun q1 => ?_) (fun q1 => ?_)
  · have q1 := Int32.not_lt.mpr q1
    refine mt_iload_n dX4_side_9 rfl ?_
    refine mt_iload_n dX4_side_10 rfl ?_
    refine mt_icmp_ne dX4_side_11 (tgt := 18) rfl (fun q2 => ?_) (fun q2 => ?_)
    · refine mt_iconst dX4_side_18 (v := nI 1) rfl ?_
      refine mt_ireturn dX4_side_19 rfl rfl (Nat.le_of_ble_eq_true rfl) (Nat.le_of_ble_eq_true rfl) ?_
      exact ⟨by simp only [sideF, if_neg q1, if_neg q2], rfl, rfl⟩
    · refine mt_iconst dX4_side_14 (v := nI 0) rfl ?_
      refine mt_goto dX4_side_15 (tgt := 19) rfl ?_
      refine mt_ireturn dX4_side_19 rfl rfl (Nat.le_of_ble_eq_true rfl) (Nat.le_of_ble_eq_true rfl) ?_
      exact ⟨by simp only [sideF, if_neg q1, if_pos q2], rfl, rfl⟩
  · have q1 := Int32.not_le.mp q1
    refine mt_iconst dX4_side_5 (v := -1) rfl ?_
    refine mt_goto dX4_side_6 (tgt := 19) rfl ?_
    refine mt_ireturn dX4_side_19 rfl rfl (Nat.le_of_ble_eq_true rfl) (Nat.le_of_ble_eq_true rfl) ?_
    exact ⟨by simp only [sideF, if_pos q1], rfl, rfl⟩
set_option maxRecDepth 100000 in
set_option maxHeartbeats 2000000 in
theorem tX4_part_9 {l : Launch} {R : Room} {K : mK} {cc sc : Nat} {n nn : Nat} {h0 : mH} {a la s t : Nat} {f : Nat → Int32} (e0_0 : h0 a = .inl (0, la, f)) (hne_0 : a ≠ nn) (hst : s ≤ t) (htl : t ≤ la) (hla : la ≤ 640) (kk0 : ∀ (k : Nat) (h : mH) (g : Nat → Int32), (h nn = .inl (0, (t - s), g)) → (∀ i, i < (t - s) → g i = f (s + i)) → (∀ j, j ≠ nn → h j = h0 j) → mT l mX4_part R K 31 [.ref a, .int (nI s), .int (nI t), .ref nn, .int (nI k)] [] h n cc sc) : ∀ (N0 : Nat) (k : Nat) (h : mH) (g : Nat → Int32), (t - k) < N0 → (h nn = .inl (0, (t - s), g)) → (∀ i, i < k - s → g i = f (s + i)) → (∀ j, j ≠ nn → h j = h0 j) → (s ≤ k) → (k ≤ t) → mT l mX4_part R K 9 [.ref a, .int (nI s), .int (nI t), .ref nn, .int (nI k)] [] h n cc sc := by
  intro N0
  induction N0 with
  | zero => intro k h g hm; exact absurd hm (Nat.not_lt_zero _)
  | succ N0 ih =>
    intro k h g hm eN hg hfr hv1 hv2
    have ea := (hfr a (by omega)).trans e0_0
    refine mt_iload dX4_part_9 rfl ?_
    refine mt_iload_n dX4_part_11 rfl ?_
    refine mt_icmp_ge dX4_part_12 (tgt := 31) rfl (fun q1 => ?_) (fun q1 => ?_)
    · have q1 := Int32.not_lt.mpr q1
      have q1 := (not_congr (nI_ltI (by omega) (by omega))).mp q1
      exact kk0 k h g eN (fun i hi => hg i (by omega)) hfr
    · have q1 := Int32.not_le.mp q1
      have q1 := (nI_ltI (by omega) (by omega)).mp q1
      refine mt_aload_n dX4_part_15 rfl rfl ?_
      refine mt_iload dX4_part_16 rfl ?_
      refine mt_iload_n dX4_part_18 rfl ?_
      refine mp_isub dX4_part_19 (v := nI (k - s)) (pk_sub (by omega)) ?_
      refine mt_aload_n dX4_part_20 rfl rfl ?_
      refine mt_iload dX4_part_21 rfl ?_
      refine mp_iaload dX4_part_23 ea rfl (by omega) (by omega) (v := f k) rfl ?_
      refine mp_iastore dX4_part_24 eN rfl (by omega) (by omega) (fun h2 e3 f4 => ?_)
      refine mp_iinc dX4_part_25 rfl (v := nI (k + 1)) mI_inc (ls' := [.ref a, .int (nI s), .int (nI t), .ref nn, .int (nI (k + 1))]) rfl (by decide) rfl ?_
      refine mt_goto dX4_part_28 (tgt := 9) rfl ?_
      exact ih (k + 1) h2 (upd g (k - s) (f k)) (by omega) e3 (fun i hi => arr_step (F := fun i => f (s + i)) hg (show f k = f (s + (k - s)) from congrArg f (by omega)) i (by omega)) (fun j hj => (f4 j (by omega)).trans (hfr j hj)) (by omega) (by omega)
abbrev rX4_part : Room := { frames := 0, cells := 1, slots := 640, locals := 0 }
set_option maxRecDepth 100000 in
set_option maxHeartbeats 2000000 in
theorem kX4_part {l : Launch} (hl : l.stackTraces = false) {h : mH} {n : Nat} {a la s t : Nat} {f : Nat → Int32} (ea : h a = .inl (0, la, f)) (hst : s ≤ t) (htl : t ≤ la) (hla : la ≤ 640) (han : a < n) : mC l mX4_part rX4_part [.ref a, .int (nI s), .int (nI t)] h n (mArr (t - s) (fun i => f (s + i)) h n) (mNX) := by
  refine mm_enter hl (by decide +kernel) rfl rfl rfl (Nat.le_of_ble_eq_true rfl) ?_
  show mT _ _ _ _ 0 [.ref a, .int (nI s), .int (nI t), .double 0, .double 0] [] _ _ 0 0
  refine mt_iload_n dX4_part_0 rfl ?_
  refine mt_iload_n dX4_part_1 rfl ?_
  refine mp_isub dX4_part_2 (v := nI (t - s)) (pk_sub (by omega)) ?_
  refine mp_newarray dX4_part_3 mw_87 rfl (by omega) (by simp only [rX4_part]; omega) (by simp only [rX4_part]; omega) (fun h1 e2 f3 => ?_)
  refine mp_astore_n dX4_part_5 (ls' := [.ref a, .int (nI s), .int (nI t), .ref n, .double 0]) rfl rfl (by decide) rfl ?_
  refine mt_iload_n dX4_part_6 rfl ?_
  refine mp_istore dX4_part_7 (ls' := [.ref a, .int (nI s), .int (nI t), .ref n, .int (nI s)]) rfl (by decide) rfl ?_
  refine tX4_part_9 ((f3 (a) (by omega)).trans ea) (by omega) hst htl hla (fun k_4 h_5 g_6 z7 z8 z9 => ?_) _ s h1 _ (Nat.lt_succ_self _) e2 (fun i hi => absurd hi (by omega)) (fun _ _ => rfl) (by omega) (by omega)
  refine mt_aload_n dX4_part_31 rfl rfl ?_
  refine mt_areturn dX4_part_32 rfl (by first | exact Or.inl ⟨_, rfl⟩ | exact Or.inr ⟨_, rfl⟩) rfl (by simp only [rX4_part]; omega) (by simp only [rX4_part]; omega) ?_
  exact ⟨rfl, rfl, ⟨_, z7, z8⟩, fun j hj => (z9 j hj).trans (f3 j hj)⟩
set_option maxRecDepth 100000 in
set_option maxHeartbeats 2000000 in
theorem tX4_both_10 {l : Launch} {R : Room} {K : mK} {cc sc : Nat} {n nn : Nat} {h0 : mH} {a b la lb : Nat} {f f2 : Nat → Int32} (e0_0 : h0 a = .inl (0, la, f)) (e0_1 : h0 b = .inl (0, lb, f2)) (hne_0 : a ≠ nn) (hne_1 : b ≠ nn) (hla : la + lb ≤ 640) (kk0 : ∀ (k : Nat) (h : mH) (g : Nat → Int32), (h nn = .inl (0, (la + lb), g)) → (∀ i, i < (la + lb) → g i = bothF la f f2 i) → (∀ j, j ≠ nn → h j = h0 j) → mT l mX4_both R K 43 [.ref a, .ref b, .ref nn, .int (nI k)] [] h n cc sc) : ∀ (N0 : Nat) (k : Nat) (h : mH) (g : Nat → Int32), ((la + lb) - k) < N0 → (h nn = .inl (0, (la + lb), g)) → (∀ i, i < k → g i = bothF la f f2 i) → (∀ j, j ≠ nn → h j = h0 j) → (0 ≤ k) → (k ≤ (la + lb)) → mT l mX4_both R K 10 [.ref a, .ref b, .ref nn, .int (nI k)] [] h n cc sc := by
  intro N0
  induction N0 with
  | zero => intro k h g hm; exact absurd hm (Nat.not_lt_zero _)
  | succ N0 ih =>
    intro k h g hm eN hg hfr hv1 hv2
    have ea := (hfr a (by omega)).trans e0_0
    have eb := (hfr b (by omega)).trans e0_1
    refine mt_iload_n dX4_both_10 rfl ?_
    refine mt_aload_n dX4_both_11 rfl rfl ?_
    refine mt_alen dX4_both_12 eN (by decide) ?_
    refine mt_icmp_ge dX4_both_13 (tgt := 43) rfl (fun q1 => ?_) (fun q1 => ?_)
    · have q1 := Int32.not_lt.mpr q1
      have q1 := (not_congr (nI_ltI (by omega) (by omega))).mp q1
      exact kk0 k h g eN (fun i hi => hg i (by omega)) hfr
    · have q1 := Int32.not_le.mp q1
      have q1 := (nI_ltI (by omega) (by omega)).mp q1
      refine mt_aload_n dX4_both_16 rfl rfl ?_
      refine mt_iload_n dX4_both_17 rfl ?_
      refine mt_iload_n dX4_both_18 rfl ?_
      refine mt_aload_n dX4_both_19 rfl rfl ?_
      refine mt_alen dX4_both_20 ea (by decide) ?_
      refine mt_icmp_ge dX4_both_21 (tgt := 30) rfl (fun q2 => ?_) (fun q2 => ?_)
      · have q2 := Int32.not_lt.mpr q2
        have q2 := (not_congr (nI_ltI (by omega) (by omega))).mp q2
        refine mt_aload_n dX4_both_30 rfl rfl ?_
        refine mt_iload_n dX4_both_31 rfl ?_
        refine mt_aload_n dX4_both_32 rfl rfl ?_
        refine mt_alen dX4_both_33 ea (by decide) ?_
        refine mp_isub dX4_both_34 (v := nI (k - la)) (pk_sub (by omega)) ?_
        refine mp_iaload dX4_both_35 eb rfl (by omega) (by omega) (v := f2 (k - la)) rfl ?_
        refine mp_iastore dX4_both_36 eN rfl (by omega) (by omega) (fun h3 e4 f5 => ?_)
        refine mp_iinc dX4_both_37 rfl (v := nI (k + 1)) mI_inc (ls' := [.ref a, .ref b, .ref nn, .int (nI (k + 1))]) rfl (by decide) rfl ?_
        refine mt_goto dX4_both_40 (tgt := 10) rfl ?_
        exact ih (k + 1) h3 (upd g k (f2 (k - la))) (by omega) e4 (fun i hi => arr_step (F := fun i => bothF la f f2 i) hg (by simp only [bothF, if_neg q2]) i (by omega)) (fun j hj => (f5 j (by omega)).trans (hfr j hj)) (by omega) (by omega)
      · have q2 := Int32.not_le.mp q2
        have q2 := (nI_ltI (by omega) (by omega)).mp q2
        refine mt_aload_n dX4_both_24 rfl rfl ?_
        refine mt_iload_n dX4_both_25 rfl ?_
        refine mp_iaload dX4_both_26 ea rfl (by omega) (by omega) (v := f k) rfl ?_
        refine mt_goto dX4_both_27 (tgt := 36) rfl ?_
        refine mp_iastore dX4_both_36 eN rfl (by omega) (by omega) (fun h6 e7 f8 => ?_)
        refine mp_iinc dX4_both_37 rfl (v := nI (k + 1)) mI_inc (ls' := [.ref a, .ref b, .ref nn, .int (nI (k + 1))]) rfl (by decide) rfl ?_
        refine mt_goto dX4_both_40 (tgt := 10) rfl ?_
        exact ih (k + 1) h6 (upd g k (f k)) (by omega) e7 (fun i hi => arr_step (F := fun i => bothF la f f2 i) hg (by simp only [bothF, if_pos q2]) i (by omega)) (fun j hj => (f8 j (by omega)).trans (hfr j hj)) (by omega) (by omega)
abbrev rX4_both : Room := { frames := 0, cells := 1, slots := 640, locals := 0 }
set_option maxRecDepth 100000 in
set_option maxHeartbeats 2000000 in
theorem kX4_both {l : Launch} (hl : l.stackTraces = false) {h : mH} {n : Nat} {a b la lb : Nat} {f f2 : Nat → Int32} (ea : h a = .inl (0, la, f)) (eb : h b = .inl (0, lb, f2)) (hla : la + lb ≤ 640) (han : a < n) (hbn : b < n) : mC l mX4_both rX4_both [.ref a, .ref b] h n (mArr (la + lb) (bothF la f f2) h n) (mNX) := by
  refine mm_enter hl (by decide +kernel) rfl rfl rfl (Nat.le_of_ble_eq_true rfl) ?_
  show mT _ _ _ _ 0 [.ref a, .ref b, .double 0, .double 0] [] _ _ 0 0
  refine mt_aload_n dX4_both_0 rfl rfl ?_
  refine mt_alen dX4_both_1 ea (by decide) ?_
  refine mt_aload_n dX4_both_2 rfl rfl ?_
  refine mt_alen dX4_both_3 eb (by decide) ?_
  refine mp_iadd dX4_both_4 (v := nI (la + lb)) (nI_add _ _) ?_
  refine mp_newarray dX4_both_5 mw_87 rfl (by omega) (by simp only [rX4_both]; omega) (by simp only [rX4_both]; omega) (fun h1 e2 f3 => ?_)
  refine mp_astore_n dX4_both_7 (ls' := [.ref a, .ref b, .ref n, .double 0]) rfl rfl (by decide) rfl ?_
  refine mt_iconst dX4_both_8 (v := nI 0) rfl ?_
  refine mp_istore_n dX4_both_9 (ls' := [.ref a, .ref b, .ref n, .int (nI 0)]) rfl (by decide) rfl ?_
  refine tX4_both_10 ((f3 (a) (by omega)).trans ea) ((f3 (b) (by omega)).trans eb) (by omega) (by omega) hla (fun k_4 h_5 g_6 z7 z8 z9 => ?_) _ 0 h1 _ (Nat.lt_succ_self _) e2 (fun i hi => absurd hi (by omega)) (fun _ _ => rfl) (by omega) (by omega)
  refine mt_aload_n dX4_both_43 rfl rfl ?_
  refine mt_areturn dX4_both_44 rfl (by first | exact Or.inl ⟨_, rfl⟩ | exact Or.inr ⟨_, rfl⟩) rfl (by simp only [rX4_both]; omega) (by simp only [rX4_both]; omega) ?_
  exact ⟨rfl, rfl, ⟨_, z7, z8⟩, fun j hj => (z9 j hj).trans (f3 j hj)⟩
set_option maxRecDepth 100000 in
set_option maxHeartbeats 2000000 in
theorem tX4_unlike_4 {l : Launch} {R : Room} {K : mK} {cc sc : Nat} {h : mH} {n a b la lb : Nat} {f f2 : Nat → Int32} {r : Int32} (ea : h a = .inl (0, la, f)) (eb : h b = .inl (0, lb, f2)) (hab : la ≤ lb) (hlb : lb ≤ 640) (kk0 : ∀ (acc : Int32) (k : Nat), (acc = r) → mT l mX4_unlike R K 33 [.ref a, .ref b, .int acc, .int (nI k)] [] h n cc sc) : ∀ (N0 : Nat) (k : Nat) (acc : Int32), (la - k) < N0 → (mlp (unlF f f2) (la - k) k acc = r) → (k ≤ la) → mT l mX4_unlike R K 4 [.ref a, .ref b, .int acc, .int (nI k)] [] h n cc sc := by
  intro N0
  induction N0 with
  | zero => intro k acc hm; exact absurd hm (Nat.not_lt_zero _)
  | succ N0 ih =>
    intro k acc hm hr hk
    refine mt_iload_n dX4_unlike_4 rfl ?_
    refine mt_aload_n dX4_unlike_5 rfl rfl ?_
    refine mt_alen dX4_unlike_6 ea (by decide) ?_
    refine mt_icmp_ge dX4_unlike_7 (tgt := 33) rfl (fun q1 => ?_) (fun q1 => ?_)
    · have q1 := Int32.not_lt.mpr q1
      have q1 := (not_congr (nI_ltI (by omega) (by omega))).mp q1
      exact kk0 acc k ((mlp_end (f := unlF f f2) (by omega)).symm.trans hr)
    · have q1 := Int32.not_le.mp q1
      have q1 := (nI_ltI (by omega) (by omega)).mp q1
      refine mt_iload_n dX4_unlike_10 rfl ?_
      refine mt_aload_n dX4_unlike_11 rfl rfl ?_
      refine mt_iload_n dX4_unlike_12 rfl ?_
      refine mp_iaload dX4_unlike_13 ea rfl (by omega) (by omega) (v := f k) rfl ?_
      refine mt_aload_n dX4_unlike_14 rfl rfl ?_
      refine mt_iload_n dX4_unlike_15 rfl ?_
      refine mp_iaload dX4_unlike_16 eb rfl (by omega) (by omega) (v := f2 k) rfl ?_
      refine mt_icmp_ne dX4_unlike_17 (tgt := 24) rfl (fun q2 => ?_) (fun q2 => ?_)
      · refine mt_iconst dX4_unlike_24 (v := nI 1) rfl ?_
        refine mp_iadd dX4_unlike_25 (v := acc + (nI 1)) rfl ?_
        refine mp_istore_n dX4_unlike_26 (ls' := [.ref a, .ref b, .int (acc + (nI 1)), .int (nI k)]) rfl (by decide) rfl ?_
        refine mp_iinc dX4_unlike_27 rfl (v := nI (k + 1)) mI_inc (ls' := [.ref a, .ref b, .int (acc + (nI 1)), .int (nI (k + 1))]) rfl (by decide) rfl ?_
        refine mt_goto dX4_unlike_30 (tgt := 4) rfl ?_
        exact ih (k + 1) (acc + (nI 1)) (by omega) ((mlp_go (f := unlF f f2) (by omega) (by simp only [unlF, if_neg q2])).symm.trans hr) (by omega)
      · refine mt_iconst dX4_unlike_20 (v := nI 0) rfl ?_
        refine mt_goto dX4_unlike_21 (tgt := 25) rfl ?_
        refine mp_iadd dX4_unlike_25 (v := acc + (nI 0)) rfl ?_
        refine mp_istore_n dX4_unlike_26 (ls' := [.ref a, .ref b, .int (acc + (nI 0)), .int (nI k)]) rfl (by decide) rfl ?_
        refine mp_iinc dX4_unlike_27 rfl (v := nI (k + 1)) mI_inc (ls' := [.ref a, .ref b, .int (acc + (nI 0)), .int (nI (k + 1))]) rfl (by decide) rfl ?_
        refine mt_goto dX4_unlike_30 (tgt := 4) rfl ?_
        exact ih (k + 1) (acc + (nI 0)) (by omega) ((mlp_go (f := unlF f f2) (by omega) (by simp only [unlF, if_pos q2])).symm.trans hr) (by omega)
abbrev rX4_unlike : Room := { frames := 0, cells := 0, slots := 0, locals := 0 }
set_option maxRecDepth 100000 in
set_option maxHeartbeats 2000000 in
theorem kX4_unlike {l : Launch} (hl : l.stackTraces = false) {h : mH} {n a b la lb : Nat} {f f2 : Nat → Int32} (ea : h a = .inl (0, la, f)) (eb : h b = .inl (0, lb, f2)) (hab : la ≤ lb) (hlb : lb ≤ 640) : mC l mX4_unlike rX4_unlike [.ref a, .ref b] h n (mRi (mlp (unlF f f2) (la - 0) 0 (nI 0)) h n) (mNX) := by
  refine mm_enter hl (by decide +kernel) rfl rfl rfl (Nat.le_of_ble_eq_true rfl) ?_
  show mT _ _ _ _ 0 [.ref a, .ref b, .double 0, .double 0] [] _ _ 0 0
  refine mt_iconst dX4_unlike_0 (v := nI 0) rfl ?_
  refine mp_istore_n dX4_unlike_1 (ls' := [.ref a, .ref b, .int (nI 0), .double 0]) rfl (by decide) rfl ?_
  refine mt_iconst dX4_unlike_2 (v := nI 0) rfl ?_
  refine mp_istore_n dX4_unlike_3 (ls' := [.ref a, .ref b, .int (nI 0), .int (nI 0)]) rfl (by decide) rfl ?_
  refine tX4_unlike_4 ea eb hab hlb (fun acc_1 k_2 z3 => ?_) _ 0 (nI 0) (Nat.lt_succ_self _) rfl (by omega)
  refine mt_iload_n dX4_unlike_33 rfl ?_
  refine mt_ireturn dX4_unlike_34 rfl rfl (Nat.le_of_ble_eq_true rfl) (Nat.le_of_ble_eq_true rfl) ?_
  exact ⟨congrArg (fun x => some (Value.int x)) z3, rfl, rfl⟩
abbrev rX4_patterned : Room := { frames := 1, cells := 1, slots := 7, locals := 21 }
set_option maxRecDepth 100000 in
set_option maxHeartbeats 2000000 in
theorem kX4_patterned {l : Launch} (hl : l.stackTraces = false) {h : mH} {n p k m b : Nat} {a : Int32} (hp : p < 7) (hk : k < m) (hm : m ≤ 320) (hb : 0 < b) (hb2 : b < 100) : mC l mX4_patterned rX4_patterned [.int (nI k), .int (nI m), .int (nI p), .int a, .int (nI b)] h n (fun v h' n' => v = some (.int (mpat p k m a b)) ∧ n' = n + 1 ∧ ∀ j, j ≠ n → h' j = h j) (mNX) := by
  have hkb : k * b ≤ 320 * 100 := Nat.mul_le_mul (by omega) (by omega)
  have hkb2 : k / b ≤ k := Nat.div_le_self _ _
  have hkb3 : k % b < b := Nat.mod_lt _ hb
  refine mm_enter hl (by decide +kernel) rfl rfl rfl (Nat.le_of_ble_eq_true rfl) ?_
  show mT _ _ _ _ 0 [.int (nI k), .int (nI m), .int (nI p), .int a, .int (nI b), .double 0, .double 0] [] _ _ 0 0
  refine mt_iload_n dX4_patterned_0 rfl ?_
  refine mt_iload dX4_patterned_1 rfl ?_
  refine mp_idiv dX4_patterned_3 (mI_ne0 (by omega) (by omega)) (v := nI (k / b)) (pk_div (by omega) (by omega) (by omega)) ?_
  refine mt_iconst dX4_patterned_4 (v := nI 2) rfl ?_
  refine mp_irem dX4_patterned_5 (mI_ne0 (by omega) (by omega)) (v := nI ((k / b) % 2)) (pk_rem (by omega) (by omega) (by omega)) ?_
  refine mt_if_ne dX4_patterned_6 (tgt := 16) rfl (fun q1 => ?_) (fun q1 => ?_)
  · have q1 := (not_congr (mI_eq0 (by omega))).mp q1
    refine mt_iload dX4_patterned_16 rfl ?_
    refine mt_iconst dX4_patterned_18 (v := nI 1) rfl ?_
    refine mp_isub dX4_patterned_19 (v := nI (b - 1)) (pk_sub (by omega)) ?_
    refine mt_iload_n dX4_patterned_20 rfl ?_
    refine mt_iload dX4_patterned_21 rfl ?_
    refine mp_irem dX4_patterned_23 (mI_ne0 (by omega) (by omega)) (v := nI (k % b)) (pk_rem (by omega) (by omega) (by omega)) ?_
    refine mp_isub dX4_patterned_24 (v := nI ((b - 1) - (k % b))) (pk_sub (by omega)) ?_
    refine mp_istore dX4_patterned_25 (ls' := [.int (nI k), .int (nI m), .int (nI p), .int a, .int (nI b), .int (nI ((b - 1) - (k % b))), .double 0]) rfl (by decide) rfl ?_
    refine mt_bipush dX4_patterned_27 (v := nI 7) (by decide) ?_
    refine mp_newarray dX4_patterned_29 mw_87 rfl (by omega) (by simp only [rX4_patterned]; omega) (by simp only [rX4_patterned]; omega) (fun h2 e3 f4 => ?_)
    refine mt_dup dX4_patterned_31 rfl ?_
    refine mt_iconst dX4_patterned_32 (v := nI 0) rfl ?_
    refine mt_iload_n dX4_patterned_33 rfl ?_
    refine mp_iastore dX4_patterned_34 e3 rfl (by omega) (by omega) (fun h5 e6 f7 => ?_)
    refine mt_dup dX4_patterned_35 rfl ?_
    refine mt_iconst dX4_patterned_36 (v := nI 1) rfl ?_
    refine mt_iload_n dX4_patterned_37 rfl ?_
    refine mt_iload_n dX4_patterned_38 rfl ?_
    refine mt_iload dX4_patterned_39 rfl ?_
    refine mp_imul dX4_patterned_41 (v := nI (k * b)) (mI_mul _ _) ?_
    refine mp_iadd dX4_patterned_42 (v := a + (nI (k * b))) rfl ?_
    refine mp_iastore dX4_patterned_43 e6 rfl (by omega) (by omega) (fun h8 e9 f10 => ?_)
    refine mt_dup dX4_patterned_44 rfl ?_
    refine mt_iconst dX4_patterned_45 (v := nI 2) rfl ?_
    refine mt_iload_n dX4_patterned_46 rfl ?_
    refine mt_iload_n dX4_patterned_47 rfl ?_
    refine mt_iload dX4_patterned_48 rfl ?_
    refine mp_imul dX4_patterned_50 (v := nI (k * b)) (mI_mul _ _) ?_
    refine mp_isub dX4_patterned_51 (v := a - (nI (k * b))) rfl ?_
    refine mp_iastore dX4_patterned_52 e9 rfl (by omega) (by omega) (fun h11 e12 f13 => ?_)
    refine mt_dup dX4_patterned_53 rfl ?_
    refine mt_iconst dX4_patterned_54 (v := nI 3) rfl ?_
    refine mt_iload_n dX4_patterned_55 rfl ?_
    refine mt_iload_n dX4_patterned_56 rfl ?_
    refine mt_iload dX4_patterned_57 rfl ?_
    refine mp_irem dX4_patterned_59 (mI_ne0 (by omega) (by omega)) (v := nI (k % b)) (pk_rem (by omega) (by omega) (by omega)) ?_
    refine mp_iadd dX4_patterned_60 (v := a + (nI (k % b))) rfl ?_
    refine mp_iastore dX4_patterned_61 e12 rfl (by omega) (by omega) (fun h14 e15 f16 => ?_)
    refine mt_dup dX4_patterned_62 rfl ?_
    refine mt_iconst dX4_patterned_63 (v := nI 4) rfl ?_
    refine mt_iload_n dX4_patterned_64 rfl ?_
    refine mt_iload dX4_patterned_65 rfl ?_
    refine mp_iadd dX4_patterned_67 (v := a + (nI ((b - 1) - (k % b)))) rfl ?_
    refine mp_iastore dX4_patterned_68 e15 rfl (by omega) (by omega) (fun h17 e18 f19 => ?_)
    refine mt_dup dX4_patterned_69 rfl ?_
    refine mt_iconst dX4_patterned_70 (v := nI 5) rfl ?_
    refine mt_iload_n dX4_patterned_71 rfl ?_
    refine mt_iload dX4_patterned_72 rfl ?_
    refine mt_iload_n dX4_patterned_74 rfl ?_
    refine mt_iload_n dX4_patterned_75 rfl ?_
    refine mt_iconst dX4_patterned_76 (v := nI 1) rfl ?_
    refine mp_isub dX4_patterned_77 (v := nI (m - 1)) (pk_sub (by omega)) ?_
    refine mt_iload_n dX4_patterned_78 rfl ?_
    refine mp_isub dX4_patterned_79 (v := nI ((m - 1) - k)) (pk_sub (by omega)) ?_
    refine mt_mmin dX4_patterned_80 mw_1100 mw_152 mw_41 (mw_min) (Nat.le_of_ble_eq_true rfl) ⟨Nat.le_of_ble_eq_true rfl, Nat.le_of_ble_eq_true rfl⟩ (by simp only [rX4_patterned]; omega) (by simp only [rX4_patterned]; omega) (v := nI (min k ((m - 1) - k))) (mI_min (by omega) (by omega)) ?_
    refine mp_imul dX4_patterned_83 (v := nI (b * (min k ((m - 1) - k)))) (mI_mul _ _) ?_
    refine mp_iadd dX4_patterned_84 (v := a + (nI (b * (min k ((m - 1) - k))))) rfl ?_
    refine mp_iastore dX4_patterned_85 e18 rfl (by omega) (by omega) (fun h20 e21 f22 => ?_)
    refine mt_dup dX4_patterned_86 rfl ?_
    refine mt_bipush dX4_patterned_87 (v := nI 6) (by decide) ?_
    refine mt_iload_n dX4_patterned_89 rfl ?_
    refine mt_iconst dX4_patterned_90 (v := nI 2) rfl ?_
    refine mp_irem dX4_patterned_91 (mI_ne0 (by omega) (by omega)) (v := nI (k % 2)) (pk_rem (by omega) (by omega) (by omega)) ?_
    refine mt_if_ne dX4_patterned_92 (tgt := 103) rfl (fun q23 => ?_) (fun q23 => ?_)
    · have q23 := (not_congr (mI_eq0 (by omega))).mp q23
      refine mt_iload_n dX4_patterned_103 rfl ?_
      refine mt_iload dX4_patterned_104 rfl ?_
      refine mp_iadd dX4_patterned_106 (v := a + (nI b)) rfl ?_
      refine mt_iload_n dX4_patterned_107 rfl ?_
      refine mt_iconst dX4_patterned_108 (v := nI 2) rfl ?_
      refine mp_idiv dX4_patterned_109 (mI_ne0 (by omega) (by omega)) (v := nI (k / 2)) (pk_div (by omega) (by omega) (by omega)) ?_
      refine mp_isub dX4_patterned_110 (v := (a + (nI b)) - (nI (k / 2))) rfl ?_
      refine mp_iastore dX4_patterned_111 e21 rfl (by omega) (by omega) (fun h24 e25 f26 => ?_)
      refine mp_astore dX4_patterned_112 (ls' := [.int (nI k), .int (nI m), .int (nI p), .int a, .int (nI b), .int (nI ((b - 1) - (k % b))), .ref n]) rfl rfl (by decide) rfl ?_
      refine mt_aload dX4_patterned_114 rfl rfl ?_
      obtain rfl | rfl | rfl | rfl | rfl | rfl | rfl : p = 0 ∨ p = 1 ∨ p = 2 ∨ p = 3 ∨ p = 4 ∨ p = 5 ∨ p = 6 := by omega
      · refine mt_iload_n dX4_patterned_116 rfl ?_
        refine mp_iaload dX4_patterned_117 e25 rfl (by omega) (by omega) (v := (upd (upd (upd (upd (upd (upd (upd (fun _ => (0 : Int32)) 0 a) 1 (a + (nI (k * b)))) 2 (a - (nI (k * b)))) 3 (a + (nI (k % b)))) 4 (a + (nI ((b - 1) - (k % b))))) 5 (a + (nI (b * (min k ((m - 1) - k)))))) 6 ((a + (nI b)) - (nI (k / 2)))) 0) rfl ?_
        refine mt_ireturn dX4_patterned_118 rfl rfl (by simp only [rX4_patterned]; omega) (by simp only [rX4_patterned]; omega) ?_
        exact ⟨by simp [upd, mpat, q1, q23], rfl, fun j hj => (f26 j (by omega)).trans ((f22 j (by omega)).trans ((f19 j (by omega)).trans ((f16 j (by omega)).trans ((f13 j (by omega)).trans ((f10 j (by omega)).trans ((f7 j (by omega)).trans (f4 j (by omega))))))))⟩
      · refine mt_iload_n dX4_patterned_116 rfl ?_
        refine mp_iaload dX4_patterned_117 e25 rfl (by omega) (by omega) (v := (upd (upd (upd (upd (upd (upd (upd (fun _ => (0 : Int32)) 0 a) 1 (a + (nI (k * b)))) 2 (a - (nI (k * b)))) 3 (a + (nI (k % b)))) 4 (a + (nI ((b - 1) - (k % b))))) 5 (a + (nI (b * (min k ((m - 1) - k)))))) 6 ((a + (nI b)) - (nI (k / 2)))) 1) rfl ?_
        refine mt_ireturn dX4_patterned_118 rfl rfl (by simp only [rX4_patterned]; omega) (by simp only [rX4_patterned]; omega) ?_
        exact ⟨by simp [upd, mpat, q1, q23], rfl, fun j hj => (f26 j (by omega)).trans ((f22 j (by omega)).trans ((f19 j (by omega)).trans ((f16 j (by omega)).trans ((f13 j (by omega)).trans ((f10 j (by omega)).trans ((f7 j (by omega)).trans (f4 j (by omega))))))))⟩
      · refine mt_iload_n dX4_patterned_116 rfl ?_
        refine mp_iaload dX4_patterned_117 e25 rfl (by omega) (by omega) (v := (upd (upd (upd (upd (upd (upd (upd (fun _ => (0 : Int32)) 0 a) 1 (a + (nI (k * b)))) 2 (a - (nI (k * b)))) 3 (a + (nI (k % b)))) 4 (a + (nI ((b - 1) - (k % b))))) 5 (a + (nI (b * (min k ((m - 1) - k)))))) 6 ((a + (nI b)) - (nI (k / 2)))) 2) rfl ?_
        refine mt_ireturn dX4_patterned_118 rfl rfl (by simp only [rX4_patterned]; omega) (by simp only [rX4_patterned]; omega) ?_
        exact ⟨by simp [upd, mpat, q1, q23], rfl, fun j hj => (f26 j (by omega)).trans ((f22 j (by omega)).trans ((f19 j (by omega)).trans ((f16 j (by omega)).trans ((f13 j (by omega)).trans ((f10 j (by omega)).trans ((f7 j (by omega)).trans (f4 j (by omega))))))))⟩
      · refine mt_iload_n dX4_patterned_116 rfl ?_
        refine mp_iaload dX4_patterned_117 e25 rfl (by omega) (by omega) (v := (upd (upd (upd (upd (upd (upd (upd (fun _ => (0 : Int32)) 0 a) 1 (a + (nI (k * b)))) 2 (a - (nI (k * b)))) 3 (a + (nI (k % b)))) 4 (a + (nI ((b - 1) - (k % b))))) 5 (a + (nI (b * (min k ((m - 1) - k)))))) 6 ((a + (nI b)) - (nI (k / 2)))) 3) rfl ?_
        refine mt_ireturn dX4_patterned_118 rfl rfl (by simp only [rX4_patterned]; omega) (by simp only [rX4_patterned]; omega) ?_
        exact ⟨by simp [upd, mpat, q1, q23], rfl, fun j hj => (f26 j (by omega)).trans ((f22 j (by omega)).trans ((f19 j (by omega)).trans ((f16 j (by omega)).trans ((f13 j (by omega)).trans ((f10 j (by omega)).trans ((f7 j (by omega)).trans (f4 j (by omega))))))))⟩
      · refine mt_iload_n dX4_patterned_116 rfl ?_
        refine mp_iaload dX4_patterned_117 e25 rfl (by omega) (by omega) (v := (upd (upd (upd (upd (upd (upd (upd (fun _ => (0 : Int32)) 0 a) 1 (a + (nI (k * b)))) 2 (a - (nI (k * b)))) 3 (a + (nI (k % b)))) 4 (a + (nI ((b - 1) - (k % b))))) 5 (a + (nI (b * (min k ((m - 1) - k)))))) 6 ((a + (nI b)) - (nI (k / 2)))) 4) rfl ?_
        refine mt_ireturn dX4_patterned_118 rfl rfl (by simp only [rX4_patterned]; omega) (by simp only [rX4_patterned]; omega) ?_
        exact ⟨by simp [upd, mpat, q1, q23], rfl, fun j hj => (f26 j (by omega)).trans ((f22 j (by omega)).trans ((f19 j (by omega)).trans ((f16 j (by omega)).trans ((f13 j (by omega)).trans ((f10 j (by omega)).trans ((f7 j (by omega)).trans (f4 j (by omega))))))))⟩
      · refine mt_iload_n dX4_patterned_116 rfl ?_
        refine mp_iaload dX4_patterned_117 e25 rfl (by omega) (by omega) (v := (upd (upd (upd (upd (upd (upd (upd (fun _ => (0 : Int32)) 0 a) 1 (a + (nI (k * b)))) 2 (a - (nI (k * b)))) 3 (a + (nI (k % b)))) 4 (a + (nI ((b - 1) - (k % b))))) 5 (a + (nI (b * (min k ((m - 1) - k)))))) 6 ((a + (nI b)) - (nI (k / 2)))) 5) rfl ?_
        refine mt_ireturn dX4_patterned_118 rfl rfl (by simp only [rX4_patterned]; omega) (by simp only [rX4_patterned]; omega) ?_
        exact ⟨by simp [upd, mpat, q1, q23], rfl, fun j hj => (f26 j (by omega)).trans ((f22 j (by omega)).trans ((f19 j (by omega)).trans ((f16 j (by omega)).trans ((f13 j (by omega)).trans ((f10 j (by omega)).trans ((f7 j (by omega)).trans (f4 j (by omega))))))))⟩
      · refine mt_iload_n dX4_patterned_116 rfl ?_
        refine mp_iaload dX4_patterned_117 e25 rfl (by omega) (by omega) (v := (upd (upd (upd (upd (upd (upd (upd (fun _ => (0 : Int32)) 0 a) 1 (a + (nI (k * b)))) 2 (a - (nI (k * b)))) 3 (a + (nI (k % b)))) 4 (a + (nI ((b - 1) - (k % b))))) 5 (a + (nI (b * (min k ((m - 1) - k)))))) 6 ((a + (nI b)) - (nI (k / 2)))) 6) rfl ?_
        refine mt_ireturn dX4_patterned_118 rfl rfl (by simp only [rX4_patterned]; omega) (by simp only [rX4_patterned]; omega) ?_
        exact ⟨by simp [upd, mpat, q1, q23], rfl, fun j hj => (f26 j (by omega)).trans ((f22 j (by omega)).trans ((f19 j (by omega)).trans ((f16 j (by omega)).trans ((f13 j (by omega)).trans ((f10 j (by omega)).trans ((f7 j (by omega)).trans (f4 j (by omega))))))))⟩
    · have q23 := (mI_eq0 (by omega)).mp q23
      refine mt_iload_n dX4_patterned_95 rfl ?_
      refine mt_iload_n dX4_patterned_96 rfl ?_
      refine mt_iconst dX4_patterned_97 (v := nI 2) rfl ?_
      refine mp_idiv dX4_patterned_98 (mI_ne0 (by omega) (by omega)) (v := nI (k / 2)) (pk_div (by omega) (by omega) (by omega)) ?_
      refine mp_iadd dX4_patterned_99 (v := a + (nI (k / 2))) rfl ?_
      refine mt_goto dX4_patterned_100 (tgt := 111) rfl ?_
      refine mp_iastore dX4_patterned_111 e21 rfl (by omega) (by omega) (fun h27 e28 f29 => ?_)
      refine mp_astore dX4_patterned_112 (ls' := [.int (nI k), .int (nI m), .int (nI p), .int a, .int (nI b), .int (nI ((b - 1) - (k % b))), .ref n]) rfl rfl (by decide) rfl ?_
      refine mt_aload dX4_patterned_114 rfl rfl ?_
      obtain rfl | rfl | rfl | rfl | rfl | rfl | rfl : p = 0 ∨ p = 1 ∨ p = 2 ∨ p = 3 ∨ p = 4 ∨ p = 5 ∨ p = 6 := by omega
      · refine mt_iload_n dX4_patterned_116 rfl ?_
        refine mp_iaload dX4_patterned_117 e28 rfl (by omega) (by omega) (v := (upd (upd (upd (upd (upd (upd (upd (fun _ => (0 : Int32)) 0 a) 1 (a + (nI (k * b)))) 2 (a - (nI (k * b)))) 3 (a + (nI (k % b)))) 4 (a + (nI ((b - 1) - (k % b))))) 5 (a + (nI (b * (min k ((m - 1) - k)))))) 6 (a + (nI (k / 2)))) 0) rfl ?_
        refine mt_ireturn dX4_patterned_118 rfl rfl (by simp only [rX4_patterned]; omega) (by simp only [rX4_patterned]; omega) ?_
        exact ⟨by simp [upd, mpat, q1, q23], rfl, fun j hj => (f29 j (by omega)).trans ((f22 j (by omega)).trans ((f19 j (by omega)).trans ((f16 j (by omega)).trans ((f13 j (by omega)).trans ((f10 j (by omega)).trans ((f7 j (by omega)).trans (f4 j (by omega))))))))⟩
      · refine mt_iload_n dX4_patterned_116 rfl ?_
        refine mp_iaload dX4_patterned_117 e28 rfl (by omega) (by omega) (v := (upd (upd (upd (upd (upd (upd (upd (fun _ => (0 : Int32)) 0 a) 1 (a + (nI (k * b)))) 2 (a - (nI (k * b)))) 3 (a + (nI (k % b)))) 4 (a + (nI ((b - 1) - (k % b))))) 5 (a + (nI (b * (min k ((m - 1) - k)))))) 6 (a + (nI (k / 2)))) 1) rfl ?_
        refine mt_ireturn dX4_patterned_118 rfl rfl (by simp only [rX4_patterned]; omega) (by simp only [rX4_patterned]; omega) ?_
        exact ⟨by simp [upd, mpat, q1, q23], rfl, fun j hj => (f29 j (by omega)).trans ((f22 j (by omega)).trans ((f19 j (by omega)).trans ((f16 j (by omega)).trans ((f13 j (by omega)).trans ((f10 j (by omega)).trans ((f7 j (by omega)).trans (f4 j (by omega))))))))⟩
      · refine mt_iload_n dX4_patterned_116 rfl ?_
        refine mp_iaload dX4_patterned_117 e28 rfl (by omega) (by omega) (v := (upd (upd (upd (upd (upd (upd (upd (fun _ => (0 : Int32)) 0 a) 1 (a + (nI (k * b)))) 2 (a - (nI (k * b)))) 3 (a + (nI (k % b)))) 4 (a + (nI ((b - 1) - (k % b))))) 5 (a + (nI (b * (min k ((m - 1) - k)))))) 6 (a + (nI (k / 2)))) 2) rfl ?_
        refine mt_ireturn dX4_patterned_118 rfl rfl (by simp only [rX4_patterned]; omega) (by simp only [rX4_patterned]; omega) ?_
        exact ⟨by simp [upd, mpat, q1, q23], rfl, fun j hj => (f29 j (by omega)).trans ((f22 j (by omega)).trans ((f19 j (by omega)).trans ((f16 j (by omega)).trans ((f13 j (by omega)).trans ((f10 j (by omega)).trans ((f7 j (by omega)).trans (f4 j (by omega))))))))⟩
      · refine mt_iload_n dX4_patterned_116 rfl ?_
        refine mp_iaload dX4_patterned_117 e28 rfl (by omega) (by omega) (v := (upd (upd (upd (upd (upd (upd (upd (fun _ => (0 : Int32)) 0 a) 1 (a + (nI (k * b)))) 2 (a - (nI (k * b)))) 3 (a + (nI (k % b)))) 4 (a + (nI ((b - 1) - (k % b))))) 5 (a + (nI (b * (min k ((m - 1) - k)))))) 6 (a + (nI (k / 2)))) 3) rfl ?_
        refine mt_ireturn dX4_patterned_118 rfl rfl (by simp only [rX4_patterned]; omega) (by simp only [rX4_patterned]; omega) ?_
        exact ⟨by simp [upd, mpat, q1, q23], rfl, fun j hj => (f29 j (by omega)).trans ((f22 j (by omega)).trans ((f19 j (by omega)).trans ((f16 j (by omega)).trans ((f13 j (by omega)).trans ((f10 j (by omega)).trans ((f7 j (by omega)).trans (f4 j (by omega))))))))⟩
      · refine mt_iload_n dX4_patterned_116 rfl ?_
        refine mp_iaload dX4_patterned_117 e28 rfl (by omega) (by omega) (v := (upd (upd (upd (upd (upd (upd (upd (fun _ => (0 : Int32)) 0 a) 1 (a + (nI (k * b)))) 2 (a - (nI (k * b)))) 3 (a + (nI (k % b)))) 4 (a + (nI ((b - 1) - (k % b))))) 5 (a + (nI (b * (min k ((m - 1) - k)))))) 6 (a + (nI (k / 2)))) 4) rfl ?_
        refine mt_ireturn dX4_patterned_118 rfl rfl (by simp only [rX4_patterned]; omega) (by simp only [rX4_patterned]; omega) ?_
        exact ⟨by simp [upd, mpat, q1, q23], rfl, fun j hj => (f29 j (by omega)).trans ((f22 j (by omega)).trans ((f19 j (by omega)).trans ((f16 j (by omega)).trans ((f13 j (by omega)).trans ((f10 j (by omega)).trans ((f7 j (by omega)).trans (f4 j (by omega))))))))⟩
      · refine mt_iload_n dX4_patterned_116 rfl ?_
        refine mp_iaload dX4_patterned_117 e28 rfl (by omega) (by omega) (v := (upd (upd (upd (upd (upd (upd (upd (fun _ => (0 : Int32)) 0 a) 1 (a + (nI (k * b)))) 2 (a - (nI (k * b)))) 3 (a + (nI (k % b)))) 4 (a + (nI ((b - 1) - (k % b))))) 5 (a + (nI (b * (min k ((m - 1) - k)))))) 6 (a + (nI (k / 2)))) 5) rfl ?_
        refine mt_ireturn dX4_patterned_118 rfl rfl (by simp only [rX4_patterned]; omega) (by simp only [rX4_patterned]; omega) ?_
        exact ⟨by simp [upd, mpat, q1, q23], rfl, fun j hj => (f29 j (by omega)).trans ((f22 j (by omega)).trans ((f19 j (by omega)).trans ((f16 j (by omega)).trans ((f13 j (by omega)).trans ((f10 j (by omega)).trans ((f7 j (by omega)).trans (f4 j (by omega))))))))⟩
      · refine mt_iload_n dX4_patterned_116 rfl ?_
        refine mp_iaload dX4_patterned_117 e28 rfl (by omega) (by omega) (v := (upd (upd (upd (upd (upd (upd (upd (fun _ => (0 : Int32)) 0 a) 1 (a + (nI (k * b)))) 2 (a - (nI (k * b)))) 3 (a + (nI (k % b)))) 4 (a + (nI ((b - 1) - (k % b))))) 5 (a + (nI (b * (min k ((m - 1) - k)))))) 6 (a + (nI (k / 2)))) 6) rfl ?_
        refine mt_ireturn dX4_patterned_118 rfl rfl (by simp only [rX4_patterned]; omega) (by simp only [rX4_patterned]; omega) ?_
        exact ⟨by simp [upd, mpat, q1, q23], rfl, fun j hj => (f29 j (by omega)).trans ((f22 j (by omega)).trans ((f19 j (by omega)).trans ((f16 j (by omega)).trans ((f13 j (by omega)).trans ((f10 j (by omega)).trans ((f7 j (by omega)).trans (f4 j (by omega))))))))⟩
  · have q1 := (mI_eq0 (by omega)).mp q1
    refine mt_iload_n dX4_patterned_9 rfl ?_
    refine mt_iload dX4_patterned_10 rfl ?_
    refine mp_irem dX4_patterned_12 (mI_ne0 (by omega) (by omega)) (v := nI (k % b)) (pk_rem (by omega) (by omega) (by omega)) ?_
    refine mt_goto dX4_patterned_13 (tgt := 25) rfl ?_
    refine mp_istore dX4_patterned_25 (ls' := [.int (nI k), .int (nI m), .int (nI p), .int a, .int (nI b), .int (nI (k % b)), .double 0]) rfl (by decide) rfl ?_
    refine mt_bipush dX4_patterned_27 (v := nI 7) (by decide) ?_
    refine mp_newarray dX4_patterned_29 mw_87 rfl (by omega) (by simp only [rX4_patterned]; omega) (by simp only [rX4_patterned]; omega) (fun h30 e31 f32 => ?_)
    refine mt_dup dX4_patterned_31 rfl ?_
    refine mt_iconst dX4_patterned_32 (v := nI 0) rfl ?_
    refine mt_iload_n dX4_patterned_33 rfl ?_
    refine mp_iastore dX4_patterned_34 e31 rfl (by omega) (by omega) (fun h33 e34 f35 => ?_)
    refine mt_dup dX4_patterned_35 rfl ?_
    refine mt_iconst dX4_patterned_36 (v := nI 1) rfl ?_
    refine mt_iload_n dX4_patterned_37 rfl ?_
    refine mt_iload_n dX4_patterned_38 rfl ?_
    refine mt_iload dX4_patterned_39 rfl ?_
    refine mp_imul dX4_patterned_41 (v := nI (k * b)) (mI_mul _ _) ?_
    refine mp_iadd dX4_patterned_42 (v := a + (nI (k * b))) rfl ?_
    refine mp_iastore dX4_patterned_43 e34 rfl (by omega) (by omega) (fun h36 e37 f38 => ?_)
    refine mt_dup dX4_patterned_44 rfl ?_
    refine mt_iconst dX4_patterned_45 (v := nI 2) rfl ?_
    refine mt_iload_n dX4_patterned_46 rfl ?_
    refine mt_iload_n dX4_patterned_47 rfl ?_
    refine mt_iload dX4_patterned_48 rfl ?_
    refine mp_imul dX4_patterned_50 (v := nI (k * b)) (mI_mul _ _) ?_
    refine mp_isub dX4_patterned_51 (v := a - (nI (k * b))) rfl ?_
    refine mp_iastore dX4_patterned_52 e37 rfl (by omega) (by omega) (fun h39 e40 f41 => ?_)
    refine mt_dup dX4_patterned_53 rfl ?_
    refine mt_iconst dX4_patterned_54 (v := nI 3) rfl ?_
    refine mt_iload_n dX4_patterned_55 rfl ?_
    refine mt_iload_n dX4_patterned_56 rfl ?_
    refine mt_iload dX4_patterned_57 rfl ?_
    refine mp_irem dX4_patterned_59 (mI_ne0 (by omega) (by omega)) (v := nI (k % b)) (pk_rem (by omega) (by omega) (by omega)) ?_
    refine mp_iadd dX4_patterned_60 (v := a + (nI (k % b))) rfl ?_
    refine mp_iastore dX4_patterned_61 e40 rfl (by omega) (by omega) (fun h42 e43 f44 => ?_)
    refine mt_dup dX4_patterned_62 rfl ?_
    refine mt_iconst dX4_patterned_63 (v := nI 4) rfl ?_
    refine mt_iload_n dX4_patterned_64 rfl ?_
    refine mt_iload dX4_patterned_65 rfl ?_
    refine mp_iadd dX4_patterned_67 (v := a + (nI (k % b))) rfl ?_
    refine mp_iastore dX4_patterned_68 e43 rfl (by omega) (by omega) (fun h45 e46 f47 => ?_)
    refine mt_dup dX4_patterned_69 rfl ?_
    refine mt_iconst dX4_patterned_70 (v := nI 5) rfl ?_
    refine mt_iload_n dX4_patterned_71 rfl ?_
    refine mt_iload dX4_patterned_72 rfl ?_
    refine mt_iload_n dX4_patterned_74 rfl ?_
    refine mt_iload_n dX4_patterned_75 rfl ?_
    refine mt_iconst dX4_patterned_76 (v := nI 1) rfl ?_
    refine mp_isub dX4_patterned_77 (v := nI (m - 1)) (pk_sub (by omega)) ?_
    refine mt_iload_n dX4_patterned_78 rfl ?_
    refine mp_isub dX4_patterned_79 (v := nI ((m - 1) - k)) (pk_sub (by omega)) ?_
    refine mt_mmin dX4_patterned_80 mw_1100 mw_152 mw_41 (mw_min) (Nat.le_of_ble_eq_true rfl) ⟨Nat.le_of_ble_eq_true rfl, Nat.le_of_ble_eq_true rfl⟩ (by simp only [rX4_patterned]; omega) (by simp only [rX4_patterned]; omega) (v := nI (min k ((m - 1) - k))) (mI_min (by omega) (by omega)) ?_
    refine mp_imul dX4_patterned_83 (v := nI (b * (min k ((m - 1) - k)))) (mI_mul _ _) ?_
    refine mp_iadd dX4_patterned_84 (v := a + (nI (b * (min k ((m - 1) - k))))) rfl ?_
    refine mp_iastore dX4_patterned_85 e46 rfl (by omega) (by omega) (fun h48 e49 f50 => ?_)
    refine mt_dup dX4_patterned_86 rfl ?_
    refine mt_bipush dX4_patterned_87 (v := nI 6) (by decide) ?_
    refine mt_iload_n dX4_patterned_89 rfl ?_
    refine mt_iconst dX4_patterned_90 (v := nI 2) rfl ?_
    refine mp_irem dX4_patterned_91 (mI_ne0 (by omega) (by omega)) (v := nI (k % 2)) (pk_rem (by omega) (by omega) (by omega)) ?_
    refine mt_if_ne dX4_patterned_92 (tgt := 103) rfl (fun q51 => ?_) (fun q51 => ?_)
    · have q51 := (not_congr (mI_eq0 (by omega))).mp q51
      refine mt_iload_n dX4_patterned_103 rfl ?_
      refine mt_iload dX4_patterned_104 rfl ?_
      refine mp_iadd dX4_patterned_106 (v := a + (nI b)) rfl ?_
      refine mt_iload_n dX4_patterned_107 rfl ?_
      refine mt_iconst dX4_patterned_108 (v := nI 2) rfl ?_
      refine mp_idiv dX4_patterned_109 (mI_ne0 (by omega) (by omega)) (v := nI (k / 2)) (pk_div (by omega) (by omega) (by omega)) ?_
      refine mp_isub dX4_patterned_110 (v := (a + (nI b)) - (nI (k / 2))) rfl ?_
      refine mp_iastore dX4_patterned_111 e49 rfl (by omega) (by omega) (fun h52 e53 f54 => ?_)
      refine mp_astore dX4_patterned_112 (ls' := [.int (nI k), .int (nI m), .int (nI p), .int a, .int (nI b), .int (nI (k % b)), .ref n]) rfl rfl (by decide) rfl ?_
      refine mt_aload dX4_patterned_114 rfl rfl ?_
      obtain rfl | rfl | rfl | rfl | rfl | rfl | rfl : p = 0 ∨ p = 1 ∨ p = 2 ∨ p = 3 ∨ p = 4 ∨ p = 5 ∨ p = 6 := by omega
      · refine mt_iload_n dX4_patterned_116 rfl ?_
        refine mp_iaload dX4_patterned_117 e53 rfl (by omega) (by omega) (v := (upd (upd (upd (upd (upd (upd (upd (fun _ => (0 : Int32)) 0 a) 1 (a + (nI (k * b)))) 2 (a - (nI (k * b)))) 3 (a + (nI (k % b)))) 4 (a + (nI (k % b)))) 5 (a + (nI (b * (min k ((m - 1) - k)))))) 6 ((a + (nI b)) - (nI (k / 2)))) 0) rfl ?_
        refine mt_ireturn dX4_patterned_118 rfl rfl (by simp only [rX4_patterned]; omega) (by simp only [rX4_patterned]; omega) ?_
        exact ⟨by simp [upd, mpat, q1, q51], rfl, fun j hj => (f54 j (by omega)).trans ((f50 j (by omega)).trans ((f47 j (by omega)).trans ((f44 j (by omega)).trans ((f41 j (by omega)).trans ((f38 j (by omega)).trans ((f35 j (by omega)).trans (f32 j (by omega))))))))⟩
      · refine mt_iload_n dX4_patterned_116 rfl ?_
        refine mp_iaload dX4_patterned_117 e53 rfl (by omega) (by omega) (v := (upd (upd (upd (upd (upd (upd (upd (fun _ => (0 : Int32)) 0 a) 1 (a + (nI (k * b)))) 2 (a - (nI (k * b)))) 3 (a + (nI (k % b)))) 4 (a + (nI (k % b)))) 5 (a + (nI (b * (min k ((m - 1) - k)))))) 6 ((a + (nI b)) - (nI (k / 2)))) 1) rfl ?_
        refine mt_ireturn dX4_patterned_118 rfl rfl (by simp only [rX4_patterned]; omega) (by simp only [rX4_patterned]; omega) ?_
        exact ⟨by simp [upd, mpat, q1, q51], rfl, fun j hj => (f54 j (by omega)).trans ((f50 j (by omega)).trans ((f47 j (by omega)).trans ((f44 j (by omega)).trans ((f41 j (by omega)).trans ((f38 j (by omega)).trans ((f35 j (by omega)).trans (f32 j (by omega))))))))⟩
      · refine mt_iload_n dX4_patterned_116 rfl ?_
        refine mp_iaload dX4_patterned_117 e53 rfl (by omega) (by omega) (v := (upd (upd (upd (upd (upd (upd (upd (fun _ => (0 : Int32)) 0 a) 1 (a + (nI (k * b)))) 2 (a - (nI (k * b)))) 3 (a + (nI (k % b)))) 4 (a + (nI (k % b)))) 5 (a + (nI (b * (min k ((m - 1) - k)))))) 6 ((a + (nI b)) - (nI (k / 2)))) 2) rfl ?_
        refine mt_ireturn dX4_patterned_118 rfl rfl (by simp only [rX4_patterned]; omega) (by simp only [rX4_patterned]; omega) ?_
        exact ⟨by simp [upd, mpat, q1, q51], rfl, fun j hj => (f54 j (by omega)).trans ((f50 j (by omega)).trans ((f47 j (by omega)).trans ((f44 j (by omega)).trans ((f41 j (by omega)).trans ((f38 j (by omega)).trans ((f35 j (by omega)).trans (f32 j (by omega))))))))⟩
      · refine mt_iload_n dX4_patterned_116 rfl ?_
        refine mp_iaload dX4_patterned_117 e53 rfl (by omega) (by omega) (v := (upd (upd (upd (upd (upd (upd (upd (fun _ => (0 : Int32)) 0 a) 1 (a + (nI (k * b)))) 2 (a - (nI (k * b)))) 3 (a + (nI (k % b)))) 4 (a + (nI (k % b)))) 5 (a + (nI (b * (min k ((m - 1) - k)))))) 6 ((a + (nI b)) - (nI (k / 2)))) 3) rfl ?_
        refine mt_ireturn dX4_patterned_118 rfl rfl (by simp only [rX4_patterned]; omega) (by simp only [rX4_patterned]; omega) ?_
        exact ⟨by simp [upd, mpat, q1, q51], rfl, fun j hj => (f54 j (by omega)).trans ((f50 j (by omega)).trans ((f47 j (by omega)).trans ((f44 j (by omega)).trans ((f41 j (by omega)).trans ((f38 j (by omega)).trans ((f35 j (by omega)).trans (f32 j (by omega))))))))⟩
      · refine mt_iload_n dX4_patterned_116 rfl ?_
        refine mp_iaload dX4_patterned_117 e53 rfl (by omega) (by omega) (v := (upd (upd (upd (upd (upd (upd (upd (fun _ => (0 : Int32)) 0 a) 1 (a + (nI (k * b)))) 2 (a - (nI (k * b)))) 3 (a + (nI (k % b)))) 4 (a + (nI (k % b)))) 5 (a + (nI (b * (min k ((m - 1) - k)))))) 6 ((a + (nI b)) - (nI (k / 2)))) 4) rfl ?_
        refine mt_ireturn dX4_patterned_118 rfl rfl (by simp only [rX4_patterned]; omega) (by simp only [rX4_patterned]; omega) ?_
        exact ⟨by simp [upd, mpat, q1, q51], rfl, fun j hj => (f54 j (by omega)).trans ((f50 j (by omega)).trans ((f47 j (by omega)).trans ((f44 j (by omega)).trans ((f41 j (by omega)).trans ((f38 j (by omega)).trans ((f35 j (by omega)).trans (f32 j (by omega))))))))⟩
      · refine mt_iload_n dX4_patterned_116 rfl ?_
        refine mp_iaload dX4_patterned_117 e53 rfl (by omega) (by omega) (v := (upd (upd (upd (upd (upd (upd (upd (fun _ => (0 : Int32)) 0 a) 1 (a + (nI (k * b)))) 2 (a - (nI (k * b)))) 3 (a + (nI (k % b)))) 4 (a + (nI (k % b)))) 5 (a + (nI (b * (min k ((m - 1) - k)))))) 6 ((a + (nI b)) - (nI (k / 2)))) 5) rfl ?_
        refine mt_ireturn dX4_patterned_118 rfl rfl (by simp only [rX4_patterned]; omega) (by simp only [rX4_patterned]; omega) ?_
        exact ⟨by simp [upd, mpat, q1, q51], rfl, fun j hj => (f54 j (by omega)).trans ((f50 j (by omega)).trans ((f47 j (by omega)).trans ((f44 j (by omega)).trans ((f41 j (by omega)).trans ((f38 j (by omega)).trans ((f35 j (by omega)).trans (f32 j (by omega))))))))⟩
      · refine mt_iload_n dX4_patterned_116 rfl ?_
        refine mp_iaload dX4_patterned_117 e53 rfl (by omega) (by omega) (v := (upd (upd (upd (upd (upd (upd (upd (fun _ => (0 : Int32)) 0 a) 1 (a + (nI (k * b)))) 2 (a - (nI (k * b)))) 3 (a + (nI (k % b)))) 4 (a + (nI (k % b)))) 5 (a + (nI (b * (min k ((m - 1) - k)))))) 6 ((a + (nI b)) - (nI (k / 2)))) 6) rfl ?_
        refine mt_ireturn dX4_patterned_118 rfl rfl (by simp only [rX4_patterned]; omega) (by simp only [rX4_patterned]; omega) ?_
        exact ⟨by simp [upd, mpat, q1, q51], rfl, fun j hj => (f54 j (by omega)).trans ((f50 j (by omega)).trans ((f47 j (by omega)).trans ((f44 j (by omega)).trans ((f41 j (by omega)).trans ((f38 j (by omega)).trans ((f35 j (by omega)).trans (f32 j (by omega))))))))⟩
    · have q51 := (mI_eq0 (by omega)).mp q51
      refine mt_iload_n dX4_patterned_95 rfl ?_
      refine mt_iload_n dX4_patterned_96 rfl ?_
      refine mt_iconst dX4_patterned_97 (v := nI 2) rfl ?_
      refine mp_idiv dX4_patterned_98 (mI_ne0 (by omega) (by omega)) (v := nI (k / 2)) (pk_div (by omega) (by omega) (by omega)) ?_
      refine mp_iadd dX4_patterned_99 (v := a + (nI (k / 2))) rfl ?_
      refine mt_goto dX4_patterned_100 (tgt := 111) rfl ?_
      refine mp_iastore dX4_patterned_111 e49 rfl (by omega) (by omega) (fun h55 e56 f57 => ?_)
      refine mp_astore dX4_patterned_112 (ls' := [.int (nI k), .int (nI m), .int (nI p), .int a, .int (nI b), .int (nI (k % b)), .ref n]) rfl rfl (by decide) rfl ?_
      refine mt_aload dX4_patterned_114 rfl rfl ?_
      obtain rfl | rfl | rfl | rfl | rfl | rfl | rfl : p = 0 ∨ p = 1 ∨ p = 2 ∨ p = 3 ∨ p = 4 ∨ p = 5 ∨ p = 6 := by omega
      · refine mt_iload_n dX4_patterned_116 rfl ?_
        refine mp_iaload dX4_patterned_117 e56 rfl (by omega) (by omega) (v := (upd (upd (upd (upd (upd (upd (upd (fun _ => (0 : Int32)) 0 a) 1 (a + (nI (k * b)))) 2 (a - (nI (k * b)))) 3 (a + (nI (k % b)))) 4 (a + (nI (k % b)))) 5 (a + (nI (b * (min k ((m - 1) - k)))))) 6 (a + (nI (k / 2)))) 0) rfl ?_
        refine mt_ireturn dX4_patterned_118 rfl rfl (by simp only [rX4_patterned]; omega) (by simp only [rX4_patterned]; omega) ?_
        exact ⟨by simp [upd, mpat, q1, q51], rfl, fun j hj => (f57 j (by omega)).trans ((f50 j (by omega)).trans ((f47 j (by omega)).trans ((f44 j (by omega)).trans ((f41 j (by omega)).trans ((f38 j (by omega)).trans ((f35 j (by omega)).trans (f32 j (by omega))))))))⟩
      · refine mt_iload_n dX4_patterned_116 rfl ?_
        refine mp_iaload dX4_patterned_117 e56 rfl (by omega) (by omega) (v := (upd (upd (upd (upd (upd (upd (upd (fun _ => (0 : Int32)) 0 a) 1 (a + (nI (k * b)))) 2 (a - (nI (k * b)))) 3 (a + (nI (k % b)))) 4 (a + (nI (k % b)))) 5 (a + (nI (b * (min k ((m - 1) - k)))))) 6 (a + (nI (k / 2)))) 1) rfl ?_
        refine mt_ireturn dX4_patterned_118 rfl rfl (by simp only [rX4_patterned]; omega) (by simp only [rX4_patterned]; omega) ?_
        exact ⟨by simp [upd, mpat, q1, q51], rfl, fun j hj => (f57 j (by omega)).trans ((f50 j (by omega)).trans ((f47 j (by omega)).trans ((f44 j (by omega)).trans ((f41 j (by omega)).trans ((f38 j (by omega)).trans ((f35 j (by omega)).trans (f32 j (by omega))))))))⟩
      · refine mt_iload_n dX4_patterned_116 rfl ?_
        refine mp_iaload dX4_patterned_117 e56 rfl (by omega) (by omega) (v := (upd (upd (upd (upd (upd (upd (upd (fun _ => (0 : Int32)) 0 a) 1 (a + (nI (k * b)))) 2 (a - (nI (k * b)))) 3 (a + (nI (k % b)))) 4 (a + (nI (k % b)))) 5 (a + (nI (b * (min k ((m - 1) - k)))))) 6 (a + (nI (k / 2)))) 2) rfl ?_
        refine mt_ireturn dX4_patterned_118 rfl rfl (by simp only [rX4_patterned]; omega) (by simp only [rX4_patterned]; omega) ?_
        exact ⟨by simp [upd, mpat, q1, q51], rfl, fun j hj => (f57 j (by omega)).trans ((f50 j (by omega)).trans ((f47 j (by omega)).trans ((f44 j (by omega)).trans ((f41 j (by omega)).trans ((f38 j (by omega)).trans ((f35 j (by omega)).trans (f32 j (by omega))))))))⟩
      · refine mt_iload_n dX4_patterned_116 rfl ?_
        refine mp_iaload dX4_patterned_117 e56 rfl (by omega) (by omega) (v := (upd (upd (upd (upd (upd (upd (upd (fun _ => (0 : Int32)) 0 a) 1 (a + (nI (k * b)))) 2 (a - (nI (k * b)))) 3 (a + (nI (k % b)))) 4 (a + (nI (k % b)))) 5 (a + (nI (b * (min k ((m - 1) - k)))))) 6 (a + (nI (k / 2)))) 3) rfl ?_
        refine mt_ireturn dX4_patterned_118 rfl rfl (by simp only [rX4_patterned]; omega) (by simp only [rX4_patterned]; omega) ?_
        exact ⟨by simp [upd, mpat, q1, q51], rfl, fun j hj => (f57 j (by omega)).trans ((f50 j (by omega)).trans ((f47 j (by omega)).trans ((f44 j (by omega)).trans ((f41 j (by omega)).trans ((f38 j (by omega)).trans ((f35 j (by omega)).trans (f32 j (by omega))))))))⟩
      · refine mt_iload_n dX4_patterned_116 rfl ?_
        refine mp_iaload dX4_patterned_117 e56 rfl (by omega) (by omega) (v := (upd (upd (upd (upd (upd (upd (upd (fun _ => (0 : Int32)) 0 a) 1 (a + (nI (k * b)))) 2 (a - (nI (k * b)))) 3 (a + (nI (k % b)))) 4 (a + (nI (k % b)))) 5 (a + (nI (b * (min k ((m - 1) - k)))))) 6 (a + (nI (k / 2)))) 4) rfl ?_
        refine mt_ireturn dX4_patterned_118 rfl rfl (by simp only [rX4_patterned]; omega) (by simp only [rX4_patterned]; omega) ?_
        exact ⟨by simp [upd, mpat, q1, q51], rfl, fun j hj => (f57 j (by omega)).trans ((f50 j (by omega)).trans ((f47 j (by omega)).trans ((f44 j (by omega)).trans ((f41 j (by omega)).trans ((f38 j (by omega)).trans ((f35 j (by omega)).trans (f32 j (by omega))))))))⟩
      · refine mt_iload_n dX4_patterned_116 rfl ?_
        refine mp_iaload dX4_patterned_117 e56 rfl (by omega) (by omega) (v := (upd (upd (upd (upd (upd (upd (upd (fun _ => (0 : Int32)) 0 a) 1 (a + (nI (k * b)))) 2 (a - (nI (k * b)))) 3 (a + (nI (k % b)))) 4 (a + (nI (k % b)))) 5 (a + (nI (b * (min k ((m - 1) - k)))))) 6 (a + (nI (k / 2)))) 5) rfl ?_
        refine mt_ireturn dX4_patterned_118 rfl rfl (by simp only [rX4_patterned]; omega) (by simp only [rX4_patterned]; omega) ?_
        exact ⟨by simp [upd, mpat, q1, q51], rfl, fun j hj => (f57 j (by omega)).trans ((f50 j (by omega)).trans ((f47 j (by omega)).trans ((f44 j (by omega)).trans ((f41 j (by omega)).trans ((f38 j (by omega)).trans ((f35 j (by omega)).trans (f32 j (by omega))))))))⟩
      · refine mt_iload_n dX4_patterned_116 rfl ?_
        refine mp_iaload dX4_patterned_117 e56 rfl (by omega) (by omega) (v := (upd (upd (upd (upd (upd (upd (upd (fun _ => (0 : Int32)) 0 a) 1 (a + (nI (k * b)))) 2 (a - (nI (k * b)))) 3 (a + (nI (k % b)))) 4 (a + (nI (k % b)))) 5 (a + (nI (b * (min k ((m - 1) - k)))))) 6 (a + (nI (k / 2)))) 6) rfl ?_
        refine mt_ireturn dX4_patterned_118 rfl rfl (by simp only [rX4_patterned]; omega) (by simp only [rX4_patterned]; omega) ?_
        exact ⟨by simp [upd, mpat, q1, q51], rfl, fun j hj => (f57 j (by omega)).trans ((f50 j (by omega)).trans ((f47 j (by omega)).trans ((f44 j (by omega)).trans ((f41 j (by omega)).trans ((f38 j (by omega)).trans ((f35 j (by omega)).trans (f32 j (by omega))))))))⟩
set_option maxRecDepth 100000 in
set_option maxHeartbeats 2000000 in
theorem tX4_made_7 {l : Launch} {R : Room} {K : mK} {cc sc : Nat} {n nn r m k28 k33 : Nat} {g0 ac rf kn th : Int32} {h0 : mH} (hnn : 27 < nn) (hm : m ≤ 640) (hr4 : r < 4) (kk0 : ∀ (k : Nat) (h : mH) (g : Nat → Int32), (h 27 = .inr (.inr (6, [.ref k28, .ref k33, .int (madeG r m g0), .int ac, .int rf, .int kn, .int th]))) → (h nn = .inl (0, m, g)) → (∀ i, i < m → g i = madeF r g0 i) → (∀ j, j ≠ nn → j ≠ 27 → h j = h0 j) → mT l mX4_made R K 43 [.ref 27, .int (nI r), .int (nI m), .ref nn, .int (nI k)] [] h n cc sc) : ∀ (N0 : Nat) (k : Nat) (h : mH) (g : Nat → Int32), (m - k) < N0 → (h 27 = .inr (.inr (6, [.ref k28, .ref k33, .int (madeG r k g0), .int ac, .int rf, .int kn, .int th]))) → (h nn = .inl (0, m, g)) → (∀ i, i < k → g i = madeF r g0 i) → (∀ j, j ≠ nn → j ≠ 27 → h j = h0 j) → (k ≤ m) → mT l mX4_made R K 7 [.ref 27, .int (nI r), .int (nI m), .ref nn, .int (nI k)] [] h n cc sc := by
  intro N0
  induction N0 with
  | zero => intro k h g hm; exact absurd hm (Nat.not_lt_zero _)
  | succ N0 ih =>
    intro k h g hm C0 eN hg hfr hk
    refine mt_iload dX4_made_7 rfl ?_
    refine mt_iload_n dX4_made_9 rfl ?_
    refine mt_icmp_ge dX4_made_10 (tgt := 43) rfl (fun q1 => ?_) (fun q1 => ?_)
    · have q1 := Int32.not_lt.mpr q1
      have q1 := (not_congr (nI_ltI (by omega) (by omega))).mp q1
      exact kk0 k h g ((show k = m from by omega) ▸ C0) eN (fun i hi => hg i (by omega)) hfr
    · have q1 := Int32.not_le.mp q1
      have q1 := (nI_ltI (by omega) (by omega)).mp q1
      refine mt_aload_n dX4_made_13 rfl rfl ?_
      refine mt_iload dX4_made_14 rfl ?_
      refine mt_iload_n dX4_made_16 rfl ?_
      refine mt_iconst dX4_made_17 (v := nI 1) rfl ?_
      refine mt_icmp_le dX4_made_18 (tgt := 25) rfl (fun q2 => ?_) (fun q2 => ?_)
      · have q2 := Int32.not_lt.mpr q2
        have q2 := (not_congr (nI_ltI (by omega) (by omega))).mp q2
        refine mt_aload_n dX4_made_25 rfl rfl ?_
        refine mt_dup dX4_made_26 rfl ?_
        refine mt_getfield mKX4 (i := 2) (by decide) mw_1055 dX4_made_27 C0 rfl ?_
        refine mt_dup_x1 dX4_made_30 rfl rfl ?_
        refine mt_iconst dX4_made_31 (v := nI 1) rfl ?_
        refine mp_iadd dX4_made_32 (v := (madeG r k g0) + (nI 1)) rfl ?_
        refine mp_putfield mKX4 (i := 2) (fs' := [.ref k28, .ref k33, .int ((madeG r k g0) + (nI 1)), .int ac, .int rf, .int kn, .int th]) (by decide) mw_1055 rfl dX4_made_33 C0 (Nat.le_of_ble_eq_true rfl) rfl rfl (fun h3 e4 f5 => ?_)
        refine mp_iastore dX4_made_36 ((f5 (nn) (by omega)).trans eN) rfl (by omega) (by omega) (fun h6 e7 f8 => ?_)
        refine mp_iinc dX4_made_37 rfl (v := nI (k + 1)) mI_inc (ls' := [.ref 27, .int (nI r), .int (nI m), .ref nn, .int (nI (k + 1))]) rfl (by decide) rfl ?_
        refine mt_goto dX4_made_40 (tgt := 7) rfl ?_
        exact ih (k + 1) h6 (upd g k (madeG r k g0)) (by omega) (((f8 (27) (by omega)).trans e4).trans (by simp only [madeG, if_neg q2]; rw [Int32.add_assoc, nI_add])) e7 (arr_step (F := madeF r g0) hg (by simp only [madeF, madeG, if_neg q2])) (fun j hj hj2 => ((f8 j (by omega)).trans (f5 j (by omega))).trans (hfr j hj hj2)) (by omega)
      · have q2 := Int32.not_le.mp q2
        have q2 := (nI_ltI (by omega) (by omega)).mp q2
        refine mt_iconst dX4_made_21 (v := -1) rfl ?_
        refine mt_goto dX4_made_22 (tgt := 36) rfl ?_
        refine mp_iastore dX4_made_36 eN rfl (by omega) (by omega) (fun h9 e10 f11 => ?_)
        refine mp_iinc dX4_made_37 rfl (v := nI (k + 1)) mI_inc (ls' := [.ref 27, .int (nI r), .int (nI m), .ref nn, .int (nI (k + 1))]) rfl (by decide) rfl ?_
        refine mt_goto dX4_made_40 (tgt := 7) rfl ?_
        exact ih (k + 1) h9 (upd g k (-1)) (by omega) (((f11 (27) (by omega)).trans C0).trans (by simp only [madeG, if_pos q2])) e10 (arr_step (F := madeF r g0) hg (by simp only [madeF, madeG, if_pos q2])) (fun j hj hj2 => (f11 j (by omega)).trans (hfr j hj hj2)) (by omega)
abbrev rX4_made : Room := { frames := 0, cells := 1, slots := 640, locals := 0 }
set_option maxRecDepth 100000 in
set_option maxHeartbeats 2000000 in
theorem kX4_made {l : Launch} (hl : l.stackTraces = false) {h : mH} {n r m k28 k33 : Nat} {g ac rf kn th : Int32} (C0 : h 27 = .inr (.inr (6, [.ref k28, .ref k33, .int g, .int ac, .int rf, .int kn, .int th]))) (hn27 : 27 < n) (hm : m ≤ 640) (hr : r < 4) : mC l mX4_made rX4_made [.ref 27, .int (nI r), .int (nI m)] h n (fun v h' n' => v = some (.ref n) ∧ n' = n + 1 ∧ (∃ g9 : Nat → Int32, h' n = .inl (0, m, g9) ∧ ∀ i, i < m → g9 i = madeF r g i) ∧ h' 27 = .inr (.inr (6, [.ref k28, .ref k33, .int (madeG r m g), .int ac, .int rf, .int kn, .int th])) ∧ ∀ j, j ≠ n → j ≠ 27 → h' j = h j) (mNX) := by
  refine mm_enter hl (by decide +kernel) rfl rfl rfl (Nat.le_of_ble_eq_true rfl) ?_
  show mT _ _ _ _ 0 [.ref 27, .int (nI r), .int (nI m), .double 0, .double 0] [] _ _ 0 0
  refine mt_iload_n dX4_made_0 rfl ?_
  refine mp_newarray dX4_made_1 mw_87 rfl (by omega) (by simp only [rX4_made]; omega) (by simp only [rX4_made]; omega) (fun h1 e2 f3 => ?_)
  refine mp_astore_n dX4_made_3 (ls' := [.ref 27, .int (nI r), .int (nI m), .ref n, .double 0]) rfl rfl (by decide) rfl ?_
  refine mt_iconst dX4_made_4 (v := nI 0) rfl ?_
  refine mp_istore dX4_made_5 (ls' := [.ref 27, .int (nI r), .int (nI m), .ref n, .int (nI 0)]) rfl (by decide) rfl ?_
  refine tX4_made_7 hn27 hm hr (fun k_4 h_5 g_6 z7 z8 z9 z10 => ?_) _ 0 h1 (fun _ => (0 : Int32)) (Nat.lt_succ_self _) (((f3 (27) (by omega)).trans C0).trans (by unfold madeG; split; rfl; exact congrArg (fun x : Int32 => (Sum.inr (Sum.inr (6, [.ref k28, .ref k33, .int x, .int ac, .int rf, .int kn, .int th])) : mE)) (Int32.add_zero _).symm)) e2 (fun i hi => absurd hi (by omega)) (fun _ _ _ => rfl) (by omega)
  refine mt_aload_n dX4_made_43 rfl rfl ?_
  refine mt_areturn dX4_made_44 rfl (by first | exact Or.inl ⟨_, rfl⟩ | exact Or.inr ⟨_, rfl⟩) rfl (by simp only [rX4_made]; omega) (by simp only [rX4_made]; omega) ?_
  exact ⟨rfl, rfl, ⟨_, z8, z9⟩, z7, fun j hj hj2 => (z10 j hj hj2).trans (f3 j hj)⟩

/-! ===== the reference: what it reads ===== -/
abbrev rX4_ranked : Room := { frames := 0, cells := 0, slots := 0, locals := 0 }
set_option maxRecDepth 100000 in
set_option maxHeartbeats 2000000 in
theorem tX4_ranked_5 {l : Launch} {R : Room} {K : mK} {cc sc : Nat} {h : mH} {n : Nat} {S : cS} {kx sx : Nat → Nat} {g ac rf kn th : Int32} {r : Nat} {r9 : Nat} {p : Nat} (C0 : h 27 = .inr (.inr (6, [.ref 28, .ref 33, .int g, .int ac, .int rf, .int kn, .int th]))) (HR : mRows h n S kx sx) (hr : r < 4) (hp : p < (S.1 r).length) (kk0 : ∀ (acc : Nat) (k : Nat), (acc = r9) → mT l mX4_ranked R K 77 [.ref 27, .int (nI r), .int (nI p), .int (nI acc), .int (nI k)] [] h n cc sc) : ∀ (N0 : Nat) (k : Nat) (acc : Nat), ((S.1 r).length - k) < N0 → (mlp (rkS (S.1 r) p) ((S.1 r).length - k) k acc = r9) → (k ≤ (S.1 r).length) → mT l mX4_ranked R K 5 [.ref 27, .int (nI r), .int (nI p), .int (nI acc), .int (nI k)] [] h n cc sc := by
  intro N0
  induction N0 with
  | zero => intro k acc hm; exact absurd hm (Nat.not_lt_zero _)
  | succ N0 ih =>
    intro k acc hm hr9 hi9
    obtain ⟨⟨gk_1, G28_1, GK_1⟩, ⟨gs_1, G33_1, GS_1⟩, AK_1, AS_1, NE_1, NQ_1, LE_1⟩ := id HR
    obtain ⟨⟨ka_2, kb_2, kc_2, kd_2⟩, kf_2, ke_2, kg_2⟩ := AK_1 r hr
    obtain ⟨⟨sa_2, sb_2, sc_2, sd_2⟩, sf_2, se_2, sg_2⟩ := AS_1 r hr
    have kn_2 := NE_1 r r hr hr
    have kl_2 := LE_1 r hr
    have km_2 := rroom_le (r := r)
    refine mt_iload dX4_ranked_5 rfl ?_
    refine mt_aload_n dX4_ranked_7 rfl rfl ?_
    refine mt_getfield mKX4 (i := 0) (by decide) mw_1053 dX4_ranked_8 C0 rfl ?_
    refine mt_iload_n dX4_ranked_11 rfl ?_
    refine mp_aaload dX4_ranked_12 G28_1 (fun _ => rfl) rfl rfl (by omega) (by omega) (v := .ref (kx r)) (by rw [GK_1 _ (by omega)]; rfl) ?_
    refine mt_alen dX4_ranked_13 ke_2 (by decide) ?_
    refine mt_icmp_ge dX4_ranked_14 (tgt := 77) rfl (fun q3 => ?_) (fun q3 => ?_)
    · have q3 := Int32.not_lt.mpr q3
      have q3 := (not_congr (nI_ltI (by omega) (by omega))).mp q3
      exact kk0 acc k ((mlp_end (f := rkS (S.1 r) p) (by omega)).symm.trans hr9)
    · have q3 := Int32.not_le.mp q3
      have q3 := (nI_ltI (by omega) (by omega)).mp q3
      refine mt_iload_n dX4_ranked_17 rfl ?_
      refine mt_aload_n dX4_ranked_18 rfl rfl ?_
      refine mt_getfield mKX4 (i := 0) (by decide) mw_1053 dX4_ranked_19 C0 rfl ?_
      refine mt_iload_n dX4_ranked_22 rfl ?_
      refine mp_aaload dX4_ranked_23 G28_1 (fun _ => rfl) rfl rfl (by omega) (by omega) (v := .ref (kx r)) (by rw [GK_1 _ (by omega)]; rfl) ?_
      refine mt_iload dX4_ranked_24 rfl ?_
      refine mp_iaload dX4_ranked_26 ke_2 rfl (by omega) (by omega) (v := xk (S.1 r) k) (kg_2 _ (by omega)) ?_
      refine mt_aload_n dX4_ranked_27 rfl rfl ?_
      refine mt_getfield mKX4 (i := 0) (by decide) mw_1053 dX4_ranked_28 C0 rfl ?_
      refine mt_iload_n dX4_ranked_31 rfl ?_
      refine mp_aaload dX4_ranked_32 G28_1 (fun _ => rfl) rfl rfl (by omega) (by omega) (v := .ref (kx r)) (by rw [GK_1 _ (by omega)]; rfl) ?_
      refine mt_iload_n dX4_ranked_33 rfl ?_
      refine mp_iaload dX4_ranked_34 ke_2 rfl (by omega) (by omega) (v := xk (S.1 r) p) (kg_2 _ (by omega)) ?_
      refine mt_icmp_lt dX4_ranked_35 (tgt := 64) rfl (fun q4 => ?_) (fun q4 => ?_)
      · refine mt_iconst dX4_ranked_64 (v := nI 1) rfl ?_
        refine mt_goto dX4_ranked_65 (tgt := 69) rfl ?_
        refine mp_iadd dX4_ranked_69 (v := nI (acc + 1)) (nI_add _ _) ?_
        refine mp_istore_n dX4_ranked_70 (ls' := [.ref 27, .int (nI r), .int (nI p), .int (nI (acc + 1)), .int (nI k)]) rfl (by decide) rfl ?_
        refine mp_iinc dX4_ranked_71 rfl (v := nI (k + 1)) mI_inc (ls' := [.ref 27, .int (nI r), .int (nI p), .int (nI (acc + 1)), .int (nI (k + 1))]) rfl (by decide) rfl ?_
        refine mt_goto dX4_ranked_74 (tgt := 5) rfl ?_
        exact ih (k + 1) (acc + 1) (by omega) ((mlp_go (f := rkS (S.1 r) p) (by omega) (by simp [rkS, q3, q4])).symm.trans hr9) (by omega)
      · refine mt_iload dX4_ranked_38 rfl ?_
        refine mt_iload_n dX4_ranked_40 rfl ?_
        refine mt_icmp_ge dX4_ranked_41 (tgt := 68) rfl (fun q5 => ?_) (fun q5 => ?_)
        · have q5 := Int32.not_lt.mpr q5
          have q5 := (not_congr (nI_ltI (by omega) (by omega))).mp q5
          refine mt_iconst dX4_ranked_68 (v := nI 0) rfl ?_
          refine mp_iadd dX4_ranked_69 (v := nI (acc + 0)) (nI_add _ _) ?_
          refine mp_istore_n dX4_ranked_70 (ls' := [.ref 27, .int (nI r), .int (nI p), .int (nI (acc + 0)), .int (nI k)]) rfl (by decide) rfl ?_
          refine mp_iinc dX4_ranked_71 rfl (v := nI (k + 1)) mI_inc (ls' := [.ref 27, .int (nI r), .int (nI p), .int (nI (acc + 0)), .int (nI (k + 1))]) rfl (by decide) rfl ?_
          refine mt_goto dX4_ranked_74 (tgt := 5) rfl ?_
          exact ih (k + 1) (acc + 0) (by omega) ((mlp_go (f := rkS (S.1 r) p) (by omega) (by simp [rkS, q3, q4, q5])).symm.trans hr9) (by omega)
        · have q5 := Int32.not_le.mp q5
          have q5 := (nI_ltI (by omega) (by omega)).mp q5
          refine mt_aload_n dX4_ranked_44 rfl rfl ?_
          refine mt_getfield mKX4 (i := 0) (by decide) mw_1053 dX4_ranked_45 C0 rfl ?_
          refine mt_iload_n dX4_ranked_48 rfl ?_
          refine mp_aaload dX4_ranked_49 G28_1 (fun _ => rfl) rfl rfl (by omega) (by omega) (v := .ref (kx r)) (by rw [GK_1 _ (by omega)]; rfl) ?_
          refine mt_iload dX4_ranked_50 rfl ?_
          refine mp_iaload dX4_ranked_52 ke_2 rfl (by omega) (by omega) (v := xk (S.1 r) k) (kg_2 _ (by omega)) ?_
          refine mt_aload_n dX4_ranked_53 rfl rfl ?_
          refine mt_getfield mKX4 (i := 0) (by decide) mw_1053 dX4_ranked_54 C0 rfl ?_
          refine mt_iload_n dX4_ranked_57 rfl ?_
          refine mp_aaload dX4_ranked_58 G28_1 (fun _ => rfl) rfl rfl (by omega) (by omega) (v := .ref (kx r)) (by rw [GK_1 _ (by omega)]; rfl) ?_
          refine mt_iload_n dX4_ranked_59 rfl ?_
          refine mp_iaload dX4_ranked_60 ke_2 rfl (by omega) (by omega) (v := xk (S.1 r) p) (kg_2 _ (by omega)) ?_
          refine mt_icmp_ne dX4_ranked_61 (tgt := 68) rfl (fun q6 => ?_) (fun q6 => ?_)
          · refine mt_iconst dX4_ranked_68 (v := nI 0) rfl ?_
            refine mp_iadd dX4_ranked_69 (v := nI (acc + 0)) (nI_add _ _) ?_
            refine mp_istore_n dX4_ranked_70 (ls' := [.ref 27, .int (nI r), .int (nI p), .int (nI (acc + 0)), .int (nI k)]) rfl (by decide) rfl ?_
            refine mp_iinc dX4_ranked_71 rfl (v := nI (k + 1)) mI_inc (ls' := [.ref 27, .int (nI r), .int (nI p), .int (nI (acc + 0)), .int (nI (k + 1))]) rfl (by decide) rfl ?_
            refine mt_goto dX4_ranked_74 (tgt := 5) rfl ?_
            exact ih (k + 1) (acc + 0) (by omega) ((mlp_go (f := rkS (S.1 r) p) (by omega) (by simp [rkS, q3, q4, q5, q6])).symm.trans hr9) (by omega)
          · refine mt_iconst dX4_ranked_64 (v := nI 1) rfl ?_
            refine mt_goto dX4_ranked_65 (tgt := 69) rfl ?_
            refine mp_iadd dX4_ranked_69 (v := nI (acc + 1)) (nI_add _ _) ?_
            refine mp_istore_n dX4_ranked_70 (ls' := [.ref 27, .int (nI r), .int (nI p), .int (nI (acc + 1)), .int (nI k)]) rfl (by decide) rfl ?_
            refine mp_iinc dX4_ranked_71 rfl (v := nI (k + 1)) mI_inc (ls' := [.ref 27, .int (nI r), .int (nI p), .int (nI (acc + 1)), .int (nI (k + 1))]) rfl (by decide) rfl ?_
            refine mt_goto dX4_ranked_74 (tgt := 5) rfl ?_
            exact ih (k + 1) (acc + 1) (by omega) ((mlp_go (f := rkS (S.1 r) p) (by omega) (by simp [rkS, q3, q4, q5, q6])).symm.trans hr9) (by omega)
set_option maxRecDepth 100000 in
set_option maxHeartbeats 2000000 in
theorem kX4_ranked {l : Launch} (hl : l.stackTraces = false) {h : mH} {n : Nat} {S : cS} {kx sx : Nat → Nat} {g ac rf kn th : Int32} {r : Nat} {p : Nat} (C0 : h 27 = .inr (.inr (6, [.ref 28, .ref 33, .int g, .int ac, .int rf, .int kn, .int th]))) (HR : mRows h n S kx sx) (hr : r < 4) (hp : p < (S.1 r).length) : mC l mX4_ranked rX4_ranked [.ref 27, .int (nI r), .int (nI p)] h n (mRi (nI (rankf (S.1 r) p)) h n) (mNX) := by
  obtain ⟨⟨gk_1, G28_1, GK_1⟩, ⟨gs_1, G33_1, GS_1⟩, AK_1, AS_1, NE_1, NQ_1, LE_1⟩ := id HR
  obtain ⟨⟨ka_2, kb_2, kc_2, kd_2⟩, kf_2, ke_2, kg_2⟩ := AK_1 r hr
  obtain ⟨⟨sa_2, sb_2, sc_2, sd_2⟩, sf_2, se_2, sg_2⟩ := AS_1 r hr
  have kn_2 := NE_1 r r hr hr
  have kl_2 := LE_1 r hr
  have km_2 := rroom_le (r := r)
  refine mm_enter hl (by decide +kernel) rfl rfl rfl (Nat.le_of_ble_eq_true rfl) ?_
  show mT _ _ _ _ 0 [.ref 27, .int (nI r), .int (nI p), .double 0, .double 0] [] _ _ 0 0
  refine mt_iconst dX4_ranked_0 (v := nI 0) rfl ?_
  refine mp_istore_n dX4_ranked_1 (ls' := [.ref 27, .int (nI r), .int (nI p), .int (nI 0), .double 0]) rfl (by decide) rfl ?_
  refine mt_iconst dX4_ranked_2 (v := nI 0) rfl ?_
  refine mp_istore dX4_ranked_3 (ls' := [.ref 27, .int (nI r), .int (nI p), .int (nI 0), .int (nI 0)]) rfl (by decide) rfl ?_
  refine tX4_ranked_5 C0 HR hr hp (fun acc_3 k_4 z5 => ?_) _ 0 0 (Nat.lt_succ_self _) rfl (by omega)
  refine mt_iload_n dX4_ranked_77 rfl ?_
  refine mt_ireturn dX4_ranked_78 rfl rfl (Nat.le_of_ble_eq_true rfl) (Nat.le_of_ble_eq_true rfl) ?_
  exact ⟨congrArg (fun x => some (Value.int (nI x))) z5, rfl, rfl⟩
abbrev rX4_pairs : Room := { frames := 1, cells := 0, slots := 0, locals := 21 }
set_option maxRecDepth 100000 in
set_option maxHeartbeats 2000000 in
theorem tX4_pairs_20 {l : Launch} {K : mK} {h : mH} {n : Nat} {S : cS} {kx sx : Nat → Nat} {g ac rf kn th : Int32} {r : Nat} {r9 : Int32} {how : Int32} {k : Nat} (hl : l.stackTraces = false) (C0 : h 27 = .inr (.inr (6, [.ref 28, .ref 33, .int g, .int ac, .int rf, .int kn, .int th]))) (HR : mRows h n S kx sx) (hr : r < 4) (hk9 : k < (S.1 r).length) (kk0 : ∀ (acc : Int32) (o : Nat), (acc = r9) → mT l mX4_pairs rX4_pairs K 66 [.ref 27, .int (nI r), .int how, .int acc, .int (nI k), .int (nI o)] [] h n 0 0) : ∀ (N0 : Nat) (o : Nat) (acc : Int32), (k - o) < N0 → (mlp (prS (S.1 r) how k) (k - o) o acc = r9) → (o ≤ k) → mT l mX4_pairs rX4_pairs K 20 [.ref 27, .int (nI r), .int how, .int acc, .int (nI k), .int (nI o)] [] h n 0 0 := by
  intro N0
  induction N0 with
  | zero => intro o acc hm; exact absurd hm (Nat.not_lt_zero _)
  | succ N0 ih =>
    intro o acc hm hr9 hi9
    obtain ⟨⟨gk_1, G28_1, GK_1⟩, ⟨gs_1, G33_1, GS_1⟩, AK_1, AS_1, NE_1, NQ_1, LE_1⟩ := id HR
    obtain ⟨⟨ka_2, kb_2, kc_2, kd_2⟩, kf_2, ke_2, kg_2⟩ := AK_1 r hr
    obtain ⟨⟨sa_2, sb_2, sc_2, sd_2⟩, sf_2, se_2, sg_2⟩ := AS_1 r hr
    have kn_2 := NE_1 r r hr hr
    have kl_2 := LE_1 r hr
    have km_2 := rroom_le (r := r)
    refine mt_iload dX4_pairs_20 rfl ?_
    refine mt_iload dX4_pairs_22 rfl ?_
    refine mt_icmp_ge dX4_pairs_24 (tgt := 66) rfl (fun q3 => ?_) (fun q3 => ?_)
    · have q3 := Int32.not_lt.mpr q3
      have q3 := (not_congr (nI_ltI (by omega) (by omega))).mp q3
      exact kk0 acc o ((mlp_end (f := prS (S.1 r) how k) (by omega)).symm.trans hr9)
    · have q3 := Int32.not_le.mp q3
      have q3 := (nI_ltI (by omega) (by omega)).mp q3
      refine mt_iload_n dX4_pairs_27 rfl ?_
      refine mt_aload_n dX4_pairs_28 rfl rfl ?_
      refine mt_getfield mKX4 (i := 0) (by decide) mw_1053 dX4_pairs_29 C0 rfl ?_
      refine mt_iload_n dX4_pairs_32 rfl ?_
      refine mp_aaload dX4_pairs_33 G28_1 (fun _ => rfl) rfl rfl (by omega) (by omega) (v := .ref (kx r)) (by rw [GK_1 _ (by omega)]; rfl) ?_
      refine mt_iload dX4_pairs_34 rfl ?_
      refine mp_iaload dX4_pairs_36 ke_2 rfl (by omega) (by omega) (v := xk (S.1 r) o) (kg_2 _ (by omega)) ?_
      refine mt_aload_n dX4_pairs_37 rfl rfl ?_
      refine mt_getfield mKX4 (i := 0) (by decide) mw_1053 dX4_pairs_38 C0 rfl ?_
      refine mt_iload_n dX4_pairs_41 rfl ?_
      refine mp_aaload dX4_pairs_42 G28_1 (fun _ => rfl) rfl rfl (by omega) (by omega) (v := .ref (kx r)) (by rw [GK_1 _ (by omega)]; rfl) ?_
      refine mt_iload dX4_pairs_43 rfl ?_
      refine mp_iaload dX4_pairs_45 ke_2 rfl (by omega) (by omega) (v := xk (S.1 r) k) (kg_2 _ (by omega)) ?_
      refine mt_callS (N := mX4_side) (Rc := rX4_side) (As := [.int (xk (S.1 r) o), .int (xk (S.1 r) k)]) (st := [.int acc]) dX4_pairs_46 (kX4_side hl) sX4_side mw_1150 rfl (Nat.le_of_ble_eq_true rfl) ⟨⟨Nat.le_of_ble_eq_true rfl, Nat.le_of_ble_eq_true rfl⟩, Nat.le_of_ble_eq_true rfl, Nat.le_of_ble_eq_true rfl⟩ (fun v4 h5 n6 c7 => ?_) (fun _ _ _ hx => hx.elim)
      obtain ⟨c7a, c7b, c7c⟩ := c7
      rw [c7a, c7b, c7c]
      show mT _ _ _ _ 49 [.ref 27, .int (nI r), .int how, .int acc, .int (nI k), .int (nI o)] [.int (sideF (xk (S.1 r) o) (xk (S.1 r) k)), .int acc] _ _ _ _
      refine mt_iload_n dX4_pairs_49 rfl ?_
      refine mt_icmp_ne dX4_pairs_50 (tgt := 57) rfl (fun q8 => ?_) (fun q8 => ?_)
      · refine mt_iconst dX4_pairs_57 (v := nI 0) rfl ?_
        refine mp_iadd dX4_pairs_58 (v := acc + (nI 0)) rfl ?_
        refine mp_istore_n dX4_pairs_59 (ls' := [.ref 27, .int (nI r), .int how, .int (acc + (nI 0)), .int (nI k), .int (nI o)]) rfl (by decide) rfl ?_
        refine mp_iinc dX4_pairs_60 rfl (v := nI (o + 1)) mI_inc (ls' := [.ref 27, .int (nI r), .int how, .int (acc + (nI 0)), .int (nI k), .int (nI (o + 1))]) rfl (by decide) rfl ?_
        refine mt_goto dX4_pairs_63 (tgt := 20) rfl ?_
        exact ih (o + 1) (acc + (nI 0)) (by omega) ((mlp_go (f := prS (S.1 r) how k) (by omega) (by simp only [prS, if_pos q3, if_neg q8])).symm.trans hr9) (by omega)
      · refine mt_iconst dX4_pairs_53 (v := nI 1) rfl ?_
        refine mt_goto dX4_pairs_54 (tgt := 58) rfl ?_
        refine mp_iadd dX4_pairs_58 (v := acc + (nI 1)) rfl ?_
        refine mp_istore_n dX4_pairs_59 (ls' := [.ref 27, .int (nI r), .int how, .int (acc + (nI 1)), .int (nI k), .int (nI o)]) rfl (by decide) rfl ?_
        refine mp_iinc dX4_pairs_60 rfl (v := nI (o + 1)) mI_inc (ls' := [.ref 27, .int (nI r), .int how, .int (acc + (nI 1)), .int (nI k), .int (nI (o + 1))]) rfl (by decide) rfl ?_
        refine mt_goto dX4_pairs_63 (tgt := 20) rfl ?_
        exact ih (o + 1) (acc + (nI 1)) (by omega) ((mlp_go (f := prS (S.1 r) how k) (by omega) (by simp only [prS, if_pos q3, if_pos q8])).symm.trans hr9) (by omega)
set_option maxRecDepth 100000 in
set_option maxHeartbeats 2000000 in
theorem tX4_pairs_5 {l : Launch} {K : mK} {h : mH} {n : Nat} {S : cS} {kx sx : Nat → Nat} {g ac rf kn th : Int32} {r : Nat} {r9 : Int32} {how : Int32} (hl : l.stackTraces = false) (C0 : h 27 = .inr (.inr (6, [.ref 28, .ref 33, .int g, .int ac, .int rf, .int kn, .int th]))) (HR : mRows h n S kx sx) (hr : r < 4) (kk0 : ∀ (acc : Int32) (k : Nat), (acc = r9) → mT l mX4_pairs rX4_pairs K 72 [.ref 27, .int (nI r), .int how, .int acc, .int (nI k), .double 0] [] h n 0 0) : ∀ (N0 : Nat) (k : Nat) (acc : Int32), ((S.1 r).length - k) < N0 → (mlp (fun k acc => mlp (prS (S.1 r) how k) (k - 0) 0 acc) ((S.1 r).length - k) k acc = r9) → (k ≤ (S.1 r).length) → mT l mX4_pairs rX4_pairs K 5 [.ref 27, .int (nI r), .int how, .int acc, .int (nI k), .double 0] [] h n 0 0 := by
  intro N0
  induction N0 with
  | zero => intro k acc hm; exact absurd hm (Nat.not_lt_zero _)
  | succ N0 ih =>
    intro k acc hm hr9 hi9
    obtain ⟨⟨gk_1, G28_1, GK_1⟩, ⟨gs_1, G33_1, GS_1⟩, AK_1, AS_1, NE_1, NQ_1, LE_1⟩ := id HR
    obtain ⟨⟨ka_2, kb_2, kc_2, kd_2⟩, kf_2, ke_2, kg_2⟩ := AK_1 r hr
    obtain ⟨⟨sa_2, sb_2, sc_2, sd_2⟩, sf_2, se_2, sg_2⟩ := AS_1 r hr
    have kn_2 := NE_1 r r hr hr
    have kl_2 := LE_1 r hr
    have km_2 := rroom_le (r := r)
    refine mt_iload dX4_pairs_5 rfl ?_
    refine mt_aload_n dX4_pairs_7 rfl rfl ?_
    refine mt_getfield mKX4 (i := 0) (by decide) mw_1053 dX4_pairs_8 C0 rfl ?_
    refine mt_iload_n dX4_pairs_11 rfl ?_
    refine mp_aaload dX4_pairs_12 G28_1 (fun _ => rfl) rfl rfl (by omega) (by omega) (v := .ref (kx r)) (by rw [GK_1 _ (by omega)]; rfl) ?_
    refine mt_alen dX4_pairs_13 ke_2 (by decide) ?_
    refine mt_icmp_ge dX4_pairs_14 (tgt := 72) rfl (fun q3 => ?_) (fun q3 => ?_)
    · have q3 := Int32.not_lt.mpr q3
      have q3 := (not_congr (nI_ltI (by omega) (by omega))).mp q3
      exact kk0 acc k ((mlp_end (f := fun k acc => mlp (prS (S.1 r) how k) (k - 0) 0 acc) (by omega)).symm.trans hr9)
    · have q3 := Int32.not_le.mp q3
      have q3 := (nI_ltI (by omega) (by omega)).mp q3
      refine mt_iconst dX4_pairs_17 (v := nI 0) rfl ?_
      refine mp_istore dX4_pairs_18 (ls' := [.ref 27, .int (nI r), .int how, .int acc, .int (nI k), .int (nI 0)]) rfl (by decide) rfl ?_
      refine tX4_pairs_20 hl C0 HR hr (by omega) (fun acc_4 o_5 z6 => ?_) _ 0 acc (Nat.lt_succ_self _) rfl (by omega)
      refine mp_iinc dX4_pairs_66 rfl (v := nI (k + 1)) mI_inc (ls' := [.ref 27, .int (nI r), .int how, .int acc_4, .int (nI (k + 1)), .int (nI o_5)]) rfl (by decide) rfl ?_
      refine mt_goto dX4_pairs_69 (tgt := 5) rfl ?_
      refine mt_drop 5 (ls' := [.ref 27, .int (nI r), .int how, .int acc_4, .int (nI (k + 1)), .double 0]) rfl ?_
      exact ih (k + 1) acc_4 (by omega) ((mlp_go (f := fun k acc => mlp (prS (S.1 r) how k) (k - 0) 0 acc) (by omega) z6.symm).symm.trans hr9) (by omega)
set_option maxRecDepth 100000 in
set_option maxHeartbeats 2000000 in
theorem kX4_pairs {l : Launch} (hl : l.stackTraces = false) {h : mH} {n : Nat} {S : cS} {kx sx : Nat → Nat} {g ac rf kn th : Int32} {r : Nat} {how : Int32} (C0 : h 27 = .inr (.inr (6, [.ref 28, .ref 33, .int g, .int ac, .int rf, .int kn, .int th]))) (HR : mRows h n S kx sx) (hr : r < 4) : mC l mX4_pairs rX4_pairs [.ref 27, .int (nI r), .int how] h n (mRi (mq_pairs (S.1 r) how) h n) (mNX) := by
  obtain ⟨⟨gk_1, G28_1, GK_1⟩, ⟨gs_1, G33_1, GS_1⟩, AK_1, AS_1, NE_1, NQ_1, LE_1⟩ := id HR
  obtain ⟨⟨ka_2, kb_2, kc_2, kd_2⟩, kf_2, ke_2, kg_2⟩ := AK_1 r hr
  obtain ⟨⟨sa_2, sb_2, sc_2, sd_2⟩, sf_2, se_2, sg_2⟩ := AS_1 r hr
  have kn_2 := NE_1 r r hr hr
  have kl_2 := LE_1 r hr
  have km_2 := rroom_le (r := r)
  refine mm_enter hl (by decide +kernel) rfl rfl rfl (Nat.le_of_ble_eq_true rfl) ?_
  show mT _ _ _ _ 0 [.ref 27, .int (nI r), .int how, .double 0, .double 0, .double 0] [] _ _ 0 0
  refine mt_iconst dX4_pairs_0 (v := nI 0) rfl ?_
  refine mp_istore_n dX4_pairs_1 (ls' := [.ref 27, .int (nI r), .int how, .int (nI 0), .double 0, .double 0]) rfl (by decide) rfl ?_
  refine mt_iconst dX4_pairs_2 (v := nI 0) rfl ?_
  refine mp_istore dX4_pairs_3 (ls' := [.ref 27, .int (nI r), .int how, .int (nI 0), .int (nI 0), .double 0]) rfl (by decide) rfl ?_
  refine tX4_pairs_5 hl C0 HR hr (fun acc_3 k_4 z5 => ?_) _ 0 (nI 0) (Nat.lt_succ_self _) rfl (by omega)
  refine mt_iload_n dX4_pairs_72 rfl ?_
  refine mt_ireturn dX4_pairs_73 rfl rfl (Nat.le_of_ble_eq_true rfl) (Nat.le_of_ble_eq_true rfl) ?_
  exact ⟨congrArg (fun x => some (Value.int (x))) z5, rfl, rfl⟩
abbrev rX4_behind : Room := { frames := 0, cells := 0, slots := 0, locals := 0 }
set_option maxRecDepth 100000 in
set_option maxHeartbeats 2000000 in
theorem tX4_behind_4 {l : Launch} {R : Room} {K : mK} {cc sc : Nat} {h : mH} {n : Nat} {S : cS} {kx sx : Nat → Nat} {g ac rf kn th : Int32} {r : Nat} {p r9 : Nat} (C0 : h 27 = .inr (.inr (6, [.ref 28, .ref 33, .int g, .int ac, .int rf, .int kn, .int th]))) (HR : mRows h n S kx sx) (hr : r < 4) (kk0 : ∀ (e : Nat), (e = r9) → mT l mX4_behind R K 42 [.ref 27, .int (nI r), .int (nI p), .int (nI e)] [] h n cc sc) : ∀ (N0 : Nat) (e : Nat), ((S.1 r).length - e) < N0 → (erun (S.1 r) ((S.1 r).length - e) e = r9) → (0 < e) → (e ≤ (S.1 r).length) → mT l mX4_behind R K 4 [.ref 27, .int (nI r), .int (nI p), .int (nI e)] [] h n cc sc := by
  intro N0
  induction N0 with
  | zero => intro e hm; exact absurd hm (Nat.not_lt_zero _)
  | succ N0 ih =>
    intro e hm hr9 h0 he
    obtain ⟨⟨gk_1, G28_1, GK_1⟩, ⟨gs_1, G33_1, GS_1⟩, AK_1, AS_1, NE_1, NQ_1, LE_1⟩ := id HR
    obtain ⟨⟨ka_2, kb_2, kc_2, kd_2⟩, kf_2, ke_2, kg_2⟩ := AK_1 r hr
    obtain ⟨⟨sa_2, sb_2, sc_2, sd_2⟩, sf_2, se_2, sg_2⟩ := AS_1 r hr
    have kn_2 := NE_1 r r hr hr
    have kl_2 := LE_1 r hr
    have km_2 := rroom_le (r := r)
    refine mt_iload_n dX4_behind_4 rfl ?_
    refine mt_aload_n dX4_behind_5 rfl rfl ?_
    refine mt_getfield mKX4 (i := 0) (by decide) mw_1053 dX4_behind_6 C0 rfl ?_
    refine mt_iload_n dX4_behind_9 rfl ?_
    refine mp_aaload dX4_behind_10 G28_1 (fun _ => rfl) rfl rfl (by omega) (by omega) (v := .ref (kx r)) (by rw [GK_1 _ (by omega)]; rfl) ?_
    refine mt_alen dX4_behind_11 ke_2 (by decide) ?_
    refine mt_icmp_ge dX4_behind_12 (tgt := 42) rfl (fun q3 => ?_) (fun q3 => ?_)
    · have q3 := Int32.not_lt.mpr q3
      have q3 := (not_congr (nI_ltI (by omega) (by omega))).mp q3
      exact kk0 e (by first | exact (erun_end (by omega)).symm.trans hr9 | exact (erun_no (by omega) (by assumption)).symm.trans hr9)
    · have q3 := Int32.not_le.mp q3
      have q3 := (nI_ltI (by omega) (by omega)).mp q3
      refine mt_aload_n dX4_behind_15 rfl rfl ?_
      refine mt_getfield mKX4 (i := 0) (by decide) mw_1053 dX4_behind_16 C0 rfl ?_
      refine mt_iload_n dX4_behind_19 rfl ?_
      refine mp_aaload dX4_behind_20 G28_1 (fun _ => rfl) rfl rfl (by omega) (by omega) (v := .ref (kx r)) (by rw [GK_1 _ (by omega)]; rfl) ?_
      refine mt_iload_n dX4_behind_21 rfl ?_
      refine mp_iaload dX4_behind_22 ke_2 rfl (by omega) (by omega) (v := xk (S.1 r) e) (kg_2 _ (by omega)) ?_
      refine mt_aload_n dX4_behind_23 rfl rfl ?_
      refine mt_getfield mKX4 (i := 0) (by decide) mw_1053 dX4_behind_24 C0 rfl ?_
      refine mt_iload_n dX4_behind_27 rfl ?_
      refine mp_aaload dX4_behind_28 G28_1 (fun _ => rfl) rfl rfl (by omega) (by omega) (v := .ref (kx r)) (by rw [GK_1 _ (by omega)]; rfl) ?_
      refine mt_iload_n dX4_behind_29 rfl ?_
      refine mt_iconst dX4_behind_30 (v := nI 1) rfl ?_
      refine mp_isub dX4_behind_31 (v := nI (e - 1)) (pk_sub (by omega)) ?_
      refine mp_iaload dX4_behind_32 ke_2 rfl (by omega) (by omega) (v := xk (S.1 r) (e - 1)) (kg_2 _ (by omega)) ?_
      refine mt_icmp_lt dX4_behind_33 (tgt := 42) rfl (fun q4 => ?_) (fun q4 => ?_)
      · exact kk0 e (by first | exact (erun_end (by omega)).symm.trans hr9 | exact (erun_no (by omega) (by assumption)).symm.trans hr9)
      · refine mp_iinc dX4_behind_36 rfl (v := nI (e + 1)) mI_inc (ls' := [.ref 27, .int (nI r), .int (nI p), .int (nI (e + 1))]) rfl (by decide) rfl ?_
        refine mt_goto dX4_behind_39 (tgt := 4) rfl ?_
        exact ih (e + 1) (by omega) ((erun_go (by omega) (by assumption)).symm.trans hr9) (by omega) (by omega)
set_option maxRecDepth 100000 in
set_option maxHeartbeats 2000000 in
theorem kX4_behind {l : Launch} (hl : l.stackTraces = false) {h : mH} {n : Nat} {S : cS} {kx sx : Nat → Nat} {g ac rf kn th : Int32} {r : Nat} {p : Nat} (C0 : h 27 = .inr (.inr (6, [.ref 28, .ref 33, .int g, .int ac, .int rf, .int kn, .int th]))) (HR : mRows h n S kx sx) (hr : r < 4) (hp : p < (S.1 r).length) : mC l mX4_behind rX4_behind [.ref 27, .int (nI r), .int (nI p)] h n (mRi (nI (q_endOfRun (S.1 r) p - p)) h n) (mNX) := by
  obtain ⟨⟨gk_1, G28_1, GK_1⟩, ⟨gs_1, G33_1, GS_1⟩, AK_1, AS_1, NE_1, NQ_1, LE_1⟩ := id HR
  obtain ⟨⟨ka_2, kb_2, kc_2, kd_2⟩, kf_2, ke_2, kg_2⟩ := AK_1 r hr
  obtain ⟨⟨sa_2, sb_2, sc_2, sd_2⟩, sf_2, se_2, sg_2⟩ := AS_1 r hr
  have kn_2 := NE_1 r r hr hr
  have kl_2 := LE_1 r hr
  have km_2 := rroom_le (r := r)
  refine mm_enter hl (by decide +kernel) rfl rfl rfl (Nat.le_of_ble_eq_true rfl) ?_
  show mT _ _ _ _ 0 [.ref 27, .int (nI r), .int (nI p), .double 0] [] _ _ 0 0
  refine mt_iload_n dX4_behind_0 rfl ?_
  refine mt_iconst dX4_behind_1 (v := nI 1) rfl ?_
  refine mp_iadd dX4_behind_2 (v := nI (p + 1)) (nI_add _ _) ?_
  refine mp_istore_n dX4_behind_3 (ls' := [.ref 27, .int (nI r), .int (nI p), .int (nI (p + 1))]) rfl (by decide) rfl ?_
  refine tX4_behind_4 C0 HR hr (fun e_3 z4 => ?_) _ (p + 1) (Nat.lt_succ_self _) rfl (by omega) (by omega)
  have el := @erun_le (S.1 r) ((S.1 r).length - (p + 1)) (p + 1)
  rw [← z4] at el
  refine mt_iload_n dX4_behind_42 rfl ?_
  refine mt_iload_n dX4_behind_43 rfl ?_
  refine mp_isub dX4_behind_44 (v := nI (e_3 - p)) (pk_sub (by omega)) ?_
  refine mt_ireturn dX4_behind_45 rfl rfl (Nat.le_of_ble_eq_true rfl) (Nat.le_of_ble_eq_true rfl) ?_
  exact ⟨congrArg (fun x => some (Value.int (nI (x - p)))) z4, rfl, rfl⟩
abbrev rX4_often : Room := { frames := 1, cells := 0, slots := 0, locals := 21 }
set_option maxRecDepth 100000 in
set_option maxHeartbeats 2000000 in
theorem tX4_often_19 {l : Launch} {K : mK} {h : mH} {n : Nat} {S : cS} {kx sx : Nat → Nat} {g ac rf kn th : Int32} {r : Nat} {r9 : Int32} {key how : Int32} (hl : l.stackTraces = false) (C0 : h 27 = .inr (.inr (6, [.ref 28, .ref 33, .int g, .int ac, .int rf, .int kn, .int th]))) (HR : mRows h n S kx sx) (hr : r < 4) (kk0 : ∀ (acc : Int32) (i : Nat), (acc = r9) → mT l mX4_often rX4_often K 59 [.ref 27, .int (nI r), .int key, .int how, .int acc, .ref (kx r), .int (nI ((S.1 r).length)), .int (nI i), .double 0] [] h n 0 0) : ∀ (N0 : Nat) (i : Nat) (acc : Int32), ((S.1 r).length - i) < N0 → (mlp (ofS (S.1 r) key how) ((S.1 r).length - i) i acc = r9) → (i ≤ (S.1 r).length) → mT l mX4_often rX4_often K 19 [.ref 27, .int (nI r), .int key, .int how, .int acc, .ref (kx r), .int (nI ((S.1 r).length)), .int (nI i), .double 0] [] h n 0 0 := by
  intro N0
  induction N0 with
  | zero => intro i acc hm; exact absurd hm (Nat.not_lt_zero _)
  | succ N0 ih =>
    intro i acc hm hr9 hi9
    obtain ⟨⟨gk_1, G28_1, GK_1⟩, ⟨gs_1, G33_1, GS_1⟩, AK_1, AS_1, NE_1, NQ_1, LE_1⟩ := id HR
    obtain ⟨⟨ka_2, kb_2, kc_2, kd_2⟩, kf_2, ke_2, kg_2⟩ := AK_1 r hr
    obtain ⟨⟨sa_2, sb_2, sc_2, sd_2⟩, sf_2, se_2, sg_2⟩ := AS_1 r hr
    have kn_2 := NE_1 r r hr hr
    have kl_2 := LE_1 r hr
    have km_2 := rroom_le (r := r)
    refine mt_iload dX4_often_19 rfl ?_
    refine mt_iload dX4_often_21 rfl ?_
    refine mt_icmp_ge dX4_often_23 (tgt := 59) rfl (fun q3 => ?_) (fun q3 => ?_)
    · have q3 := Int32.not_lt.mpr q3
      have q3 := (not_congr (nI_ltI (by omega) (by omega))).mp q3
      exact kk0 acc i ((mlp_end (f := ofS (S.1 r) key how) (by omega)).symm.trans hr9)
    · have q3 := Int32.not_le.mp q3
      have q3 := (nI_ltI (by omega) (by omega)).mp q3
      refine mt_aload dX4_often_26 rfl rfl ?_
      refine mt_iload dX4_often_28 rfl ?_
      refine mp_iaload dX4_often_30 ke_2 rfl (by omega) (by omega) (v := xk (S.1 r) i) (kg_2 _ (by omega)) ?_
      refine mp_istore dX4_often_31 (ls' := [.ref 27, .int (nI r), .int key, .int how, .int acc, .ref (kx r), .int (nI ((S.1 r).length)), .int (nI i), .int (xk (S.1 r) i)]) rfl (by decide) rfl ?_
      refine mt_iload dX4_often_33 rfl ?_
      refine mt_iload dX4_often_35 rfl ?_
      refine mt_iload_n dX4_often_37 rfl ?_
      refine mt_callS (N := mX4_side) (Rc := rX4_side) (As := [.int (xk (S.1 r) i), .int key]) (st := [.int acc]) dX4_often_38 (kX4_side hl) sX4_side mw_1150 rfl (Nat.le_of_ble_eq_true rfl) ⟨⟨Nat.le_of_ble_eq_true rfl, Nat.le_of_ble_eq_true rfl⟩, Nat.le_of_ble_eq_true rfl, Nat.le_of_ble_eq_true rfl⟩ (fun v4 h5 n6 c7 => ?_) (fun _ _ _ hx => hx.elim)
      obtain ⟨c7a, c7b, c7c⟩ := c7
      rw [c7a, c7b, c7c]
      show mT _ _ _ _ 41 [.ref 27, .int (nI r), .int key, .int how, .int acc, .ref (kx r), .int (nI ((S.1 r).length)), .int (nI i), .int (xk (S.1 r) i)] [.int (sideF (xk (S.1 r) i) key), .int acc] _ _ _ _
      refine mt_iload_n dX4_often_41 rfl ?_
      refine mt_icmp_ne dX4_often_42 (tgt := 49) rfl (fun q8 => ?_) (fun q8 => ?_)
      · refine mt_iconst dX4_often_49 (v := nI 0) rfl ?_
        refine mp_iadd dX4_often_50 (v := acc + (nI 0)) rfl ?_
        refine mp_istore dX4_often_51 (ls' := [.ref 27, .int (nI r), .int key, .int how, .int (acc + (nI 0)), .ref (kx r), .int (nI ((S.1 r).length)), .int (nI i), .int (xk (S.1 r) i)]) rfl (by decide) rfl ?_
        refine mp_iinc dX4_often_53 rfl (v := nI (i + 1)) mI_inc (ls' := [.ref 27, .int (nI r), .int key, .int how, .int (acc + (nI 0)), .ref (kx r), .int (nI ((S.1 r).length)), .int (nI (i + 1)), .int (xk (S.1 r) i)]) rfl (by decide) rfl ?_
        refine mt_goto dX4_often_56 (tgt := 19) rfl ?_
        refine mt_drop 8 (ls' := [.ref 27, .int (nI r), .int key, .int how, .int (acc + (nI 0)), .ref (kx r), .int (nI ((S.1 r).length)), .int (nI (i + 1)), .double 0]) rfl ?_
        exact ih (i + 1) (acc + (nI 0)) (by omega) ((mlp_go (f := ofS (S.1 r) key how) (by omega) (by simp only [ofS, if_pos q3, if_neg q8])).symm.trans hr9) (by omega)
      · refine mt_iconst dX4_often_45 (v := nI 1) rfl ?_
        refine mt_goto dX4_often_46 (tgt := 50) rfl ?_
        refine mp_iadd dX4_often_50 (v := acc + (nI 1)) rfl ?_
        refine mp_istore dX4_often_51 (ls' := [.ref 27, .int (nI r), .int key, .int how, .int (acc + (nI 1)), .ref (kx r), .int (nI ((S.1 r).length)), .int (nI i), .int (xk (S.1 r) i)]) rfl (by decide) rfl ?_
        refine mp_iinc dX4_often_53 rfl (v := nI (i + 1)) mI_inc (ls' := [.ref 27, .int (nI r), .int key, .int how, .int (acc + (nI 1)), .ref (kx r), .int (nI ((S.1 r).length)), .int (nI (i + 1)), .int (xk (S.1 r) i)]) rfl (by decide) rfl ?_
        refine mt_goto dX4_often_56 (tgt := 19) rfl ?_
        refine mt_drop 8 (ls' := [.ref 27, .int (nI r), .int key, .int how, .int (acc + (nI 1)), .ref (kx r), .int (nI ((S.1 r).length)), .int (nI (i + 1)), .double 0]) rfl ?_
        exact ih (i + 1) (acc + (nI 1)) (by omega) ((mlp_go (f := ofS (S.1 r) key how) (by omega) (by simp only [ofS, if_pos q3, if_pos q8])).symm.trans hr9) (by omega)
set_option maxRecDepth 100000 in
set_option maxHeartbeats 2000000 in
theorem kX4_often {l : Launch} (hl : l.stackTraces = false) {h : mH} {n : Nat} {S : cS} {kx sx : Nat → Nat} {g ac rf kn th : Int32} {r : Nat} {key how : Int32} (C0 : h 27 = .inr (.inr (6, [.ref 28, .ref 33, .int g, .int ac, .int rf, .int kn, .int th]))) (HR : mRows h n S kx sx) (hr : r < 4) : mC l mX4_often rX4_often [.ref 27, .int (nI r), .int key, .int how] h n (mRi (mq_often (S.1 r) key how) h n) (mNX) := by
  obtain ⟨⟨gk_1, G28_1, GK_1⟩, ⟨gs_1, G33_1, GS_1⟩, AK_1, AS_1, NE_1, NQ_1, LE_1⟩ := id HR
  obtain ⟨⟨ka_2, kb_2, kc_2, kd_2⟩, kf_2, ke_2, kg_2⟩ := AK_1 r hr
  obtain ⟨⟨sa_2, sb_2, sc_2, sd_2⟩, sf_2, se_2, sg_2⟩ := AS_1 r hr
  have kn_2 := NE_1 r r hr hr
  have kl_2 := LE_1 r hr
  have km_2 := rroom_le (r := r)
  refine mm_enter hl (by decide +kernel) rfl rfl rfl (Nat.le_of_ble_eq_true rfl) ?_
  show mT _ _ _ _ 0 [.ref 27, .int (nI r), .int key, .int how, .double 0, .double 0, .double 0, .double 0, .double 0] [] _ _ 0 0
  refine mt_iconst dX4_often_0 (v := nI 0) rfl ?_
  refine mp_istore dX4_often_1 (ls' := [.ref 27, .int (nI r), .int key, .int how, .int (nI 0), .double 0, .double 0, .double 0, .double 0]) rfl (by decide) rfl ?_
  refine mt_aload_n dX4_often_3 rfl rfl ?_
  refine mt_getfield mKX4 (i := 0) (by decide) mw_1053 dX4_often_4 C0 rfl ?_
  refine mt_iload_n dX4_often_7 rfl ?_
  refine mp_aaload dX4_often_8 G28_1 (fun _ => rfl) rfl rfl (by omega) (by omega) (v := .ref (kx r)) (by rw [GK_1 _ (by omega)]; rfl) ?_
  refine mp_astore dX4_often_9 (ls' := [.ref 27, .int (nI r), .int key, .int how, .int (nI 0), .ref (kx r), .double 0, .double 0, .double 0]) rfl rfl (by decide) rfl ?_
  refine mt_aload dX4_often_11 rfl rfl ?_
  refine mt_alen dX4_often_13 ke_2 (by decide) ?_
  refine mp_istore dX4_often_14 (ls' := [.ref 27, .int (nI r), .int key, .int how, .int (nI 0), .ref (kx r), .int (nI ((S.1 r).length)), .double 0, .double 0]) rfl (by decide) rfl ?_
  refine mt_iconst dX4_often_16 (v := nI 0) rfl ?_
  refine mp_istore dX4_often_17 (ls' := [.ref 27, .int (nI r), .int key, .int how, .int (nI 0), .ref (kx r), .int (nI ((S.1 r).length)), .int (nI 0), .double 0]) rfl (by decide) rfl ?_
  refine tX4_often_19 hl C0 HR hr (fun acc_3 i_4 z5 => ?_) _ 0 (nI 0) (Nat.lt_succ_self _) rfl (by omega)
  refine mt_iload dX4_often_59 rfl ?_
  refine mt_ireturn dX4_often_61 rfl rfl (Nat.le_of_ble_eq_true rfl) (Nat.le_of_ble_eq_true rfl) ?_
  exact ⟨congrArg (fun x => some (Value.int (x))) z5, rfl, rfl⟩
abbrev rX4_isNew : Room := { frames := 0, cells := 0, slots := 0, locals := 0 }
set_option maxRecDepth 100000 in
set_option maxHeartbeats 2000000 in
theorem tX4_isNew_2 {l : Launch} {R : Room} {K : mK} {cc sc : Nat} {h : mH} {n : Nat} {S : cS} {kx sx : Nat → Nat} {g ac rf kn th : Int32} {r : Nat} {p : Nat} {r9 : Bool} (C0 : h 27 = .inr (.inr (6, [.ref 28, .ref 33, .int g, .int ac, .int rf, .int kn, .int th]))) (HR : mRows h n S kx sx) (hr : r < 4) (hp : p < (S.1 r).length) (kk0 : ∀ (k : Nat), (r9 = true) → mT l mX4_isNew R K 34 [.ref 27, .int (nI r), .int (nI p), .int (nI k)] [] h n cc sc) (kk1 : ∀ (k : Nat), (r9 = false) → mT l mX4_isNew R K 26 [.ref 27, .int (nI r), .int (nI p), .int (nI k)] [] h n cc sc) : ∀ (N0 : Nat) (k : Nat), (p - k) < N0 → (mall (fun k => decide (¬ xk (S.1 r) k = xk (S.1 r) p)) (p - k) k = r9) → (k ≤ p) → mT l mX4_isNew R K 2 [.ref 27, .int (nI r), .int (nI p), .int (nI k)] [] h n cc sc := by
  intro N0
  induction N0 with
  | zero => intro k hm; exact absurd hm (Nat.not_lt_zero _)
  | succ N0 ih =>
    intro k hm hr9 hk
    obtain ⟨⟨gk_1, G28_1, GK_1⟩, ⟨gs_1, G33_1, GS_1⟩, AK_1, AS_1, NE_1, NQ_1, LE_1⟩ := id HR
    obtain ⟨⟨ka_2, kb_2, kc_2, kd_2⟩, kf_2, ke_2, kg_2⟩ := AK_1 r hr
    obtain ⟨⟨sa_2, sb_2, sc_2, sd_2⟩, sf_2, se_2, sg_2⟩ := AS_1 r hr
    have kn_2 := NE_1 r r hr hr
    have kl_2 := LE_1 r hr
    have km_2 := rroom_le (r := r)
    refine mt_iload_n dX4_isNew_2 rfl ?_
    refine mt_iload_n dX4_isNew_3 rfl ?_
    refine mt_icmp_ge dX4_isNew_4 (tgt := 34) rfl (fun q3 => ?_) (fun q3 => ?_)
    · have q3 := Int32.not_lt.mpr q3
      have q3 := (not_congr (nI_ltI (by omega) (by omega))).mp q3
      exact kk0 k (((mall_end (p := fun k => decide (¬ xk (S.1 r) k = xk (S.1 r) p)) (by omega)).symm.trans hr9).symm)
    · have q3 := Int32.not_le.mp q3
      have q3 := (nI_ltI (by omega) (by omega)).mp q3
      refine mt_aload_n dX4_isNew_7 rfl rfl ?_
      refine mt_getfield mKX4 (i := 0) (by decide) mw_1053 dX4_isNew_8 C0 rfl ?_
      refine mt_iload_n dX4_isNew_11 rfl ?_
      refine mp_aaload dX4_isNew_12 G28_1 (fun _ => rfl) rfl rfl (by omega) (by omega) (v := .ref (kx r)) (by rw [GK_1 _ (by omega)]; rfl) ?_
      refine mt_iload_n dX4_isNew_13 rfl ?_
      refine mp_iaload dX4_isNew_14 ke_2 rfl (by omega) (by omega) (v := xk (S.1 r) k) (kg_2 _ (by omega)) ?_
      refine mt_aload_n dX4_isNew_15 rfl rfl ?_
      refine mt_getfield mKX4 (i := 0) (by decide) mw_1053 dX4_isNew_16 C0 rfl ?_
      refine mt_iload_n dX4_isNew_19 rfl ?_
      refine mp_aaload dX4_isNew_20 G28_1 (fun _ => rfl) rfl rfl (by omega) (by omega) (v := .ref (kx r)) (by rw [GK_1 _ (by omega)]; rfl) ?_
      refine mt_iload_n dX4_isNew_21 rfl ?_
      refine mp_iaload dX4_isNew_22 ke_2 rfl (by omega) (by omega) (v := xk (S.1 r) p) (kg_2 _ (by omega)) ?_
      refine mt_icmp_ne dX4_isNew_23 (tgt := 28) rfl (fun q4 => ?_) (fun q4 => ?_)
      · refine mp_iinc dX4_isNew_28 rfl (v := nI (k + 1)) mI_inc (ls' := [.ref 27, .int (nI r), .int (nI p), .int (nI (k + 1))]) rfl (by decide) rfl ?_
        refine mt_goto dX4_isNew_31 (tgt := 2) rfl ?_
        exact ih (k + 1) (by omega) ((mall_go (p := fun k => decide (¬ xk (S.1 r) k = xk (S.1 r) p)) (by omega) (by simp [q4])).symm.trans hr9) (by omega)
      · exact kk1 k (((mall_no (p := fun k => decide (¬ xk (S.1 r) k = xk (S.1 r) p)) (by omega) (by simp [q4])).symm.trans hr9).symm)
set_option maxRecDepth 100000 in
set_option maxHeartbeats 2000000 in
theorem kX4_isNew {l : Launch} (hl : l.stackTraces = false) {h : mH} {n : Nat} {S : cS} {kx sx : Nat → Nat} {g ac rf kn th : Int32} {r : Nat} {p : Nat} (C0 : h 27 = .inr (.inr (6, [.ref 28, .ref 33, .int g, .int ac, .int rf, .int kn, .int th]))) (HR : mRows h n S kx sx) (hr : r < 4) (hp : p < (S.1 r).length) : mC l mX4_isNew rX4_isNew [.ref 27, .int (nI r), .int (nI p)] h n (mRi (mb (mq_isNew (S.1 r) p)) h n) (mNX) := by
  obtain ⟨⟨gk_1, G28_1, GK_1⟩, ⟨gs_1, G33_1, GS_1⟩, AK_1, AS_1, NE_1, NQ_1, LE_1⟩ := id HR
  obtain ⟨⟨ka_2, kb_2, kc_2, kd_2⟩, kf_2, ke_2, kg_2⟩ := AK_1 r hr
  obtain ⟨⟨sa_2, sb_2, sc_2, sd_2⟩, sf_2, se_2, sg_2⟩ := AS_1 r hr
  have kn_2 := NE_1 r r hr hr
  have kl_2 := LE_1 r hr
  have km_2 := rroom_le (r := r)
  refine mm_enter hl (by decide +kernel) rfl rfl rfl (Nat.le_of_ble_eq_true rfl) ?_
  show mT _ _ _ _ 0 [.ref 27, .int (nI r), .int (nI p), .double 0] [] _ _ 0 0
  refine mt_iconst dX4_isNew_0 (v := nI 0) rfl ?_
  refine mp_istore_n dX4_isNew_1 (ls' := [.ref 27, .int (nI r), .int (nI p), .int (nI 0)]) rfl (by decide) rfl ?_
  refine tX4_isNew_2 C0 HR hr hp (fun k_3 z4 => ?_) (fun k_5 z6 => ?_) _ 0 (Nat.lt_succ_self _) rfl (by omega)
  · refine mt_iconst dX4_isNew_34 (v := nI 1) rfl ?_
    refine mt_ireturn dX4_isNew_35 rfl rfl (Nat.le_of_ble_eq_true rfl) (Nat.le_of_ble_eq_true rfl) ?_
    exact ⟨congrArg (fun x => some (Value.int (mb x))) z4.symm, rfl, rfl⟩
  · refine mt_iconst dX4_isNew_26 (v := nI 0) rfl ?_
    refine mt_ireturn dX4_isNew_27 rfl rfl (Nat.le_of_ble_eq_true rfl) (Nat.le_of_ble_eq_true rfl) ?_
    exact ⟨congrArg (fun x => some (Value.int (mb x))) z6.symm, rfl, rfl⟩

/-! ===== the reference: sorted, choose ===== -/
abbrev rX4_sorted : Room := { frames := 1, cells := 1, slots := 320, locals := 24 }
set_option maxRecDepth 100000 in
set_option maxHeartbeats 2000000 in
theorem tX4_sorted_12 {l : Launch} {K : mK} {n : Nat} {S : cS} {kx sx : Nat → Nat} {g ac rf kn th : Int32} {r : Nat} {P9 : Nat → Nat} {h0 : mH} (hl : l.stackTraces = false) (h39 : 39 ≤ n) (hr : r < 4) (kk0 : ∀ (k : Nat) (h : mH) (g9 : Nat → Int32), (h n = .inl (0, (S.1 r).length, g9)) → (∀ i, g9 i = nI (P9 i)) → (∀ j, j ≠ n → h j = h0 j) → mT l mX4_sorted rX4_sorted K 33 [.ref 27, .int (nI r), .ref n, .int (nI k)] [] h (n + 1) 1 (0 + (S.1 r).length)) : ∀ (N0 : Nat) (k : Nat) (h : mH) (g9 : Nat → Int32) (P : Nat → Nat), ((S.1 r).length - k) < N0 → (h 27 = .inr (.inr (6, [.ref 28, .ref 33, .int g, .int ac, .int rf, .int kn, .int th]))) → (mRows h n S kx sx) → (h n = .inl (0, (S.1 r).length, g9)) → (∀ i, g9 i = nI (P i)) → (∀ j, j ≠ n → h j = h0 j) → (mlp (scS (S.1 r)) ((S.1 r).length - k) k P = P9) → (k ≤ (S.1 r).length) → mT l mX4_sorted rX4_sorted K 12 [.ref 27, .int (nI r), .ref n, .int (nI k)] [] h (n + 1) 1 (0 + (S.1 r).length) := by
  intro N0
  induction N0 with
  | zero => intro k h g9 P hm; exact absurd hm (Nat.not_lt_zero _)
  | succ N0 ih =>
    intro k h g9 P hm C0 HR eN hg hfr hr9 hk
    obtain ⟨⟨gk_1, G28_1, GK_1⟩, ⟨gs_1, G33_1, GS_1⟩, AK_1, AS_1, NE_1, NQ_1, LE_1⟩ := id HR
    obtain ⟨⟨ka_2, kb_2, kc_2, kd_2⟩, kf_2, ke_2, kg_2⟩ := AK_1 r hr
    obtain ⟨⟨sa_2, sb_2, sc_2, sd_2⟩, sf_2, se_2, sg_2⟩ := AS_1 r hr
    have kn_2 := NE_1 r r hr hr
    have kl_2 := LE_1 r hr
    have km_2 := rroom_le (r := r)
    have rl := rankf_lt (xs := (S.1 r)) (k := k)
    refine mt_iload_n dX4_sorted_12 rfl ?_
    refine mt_aload_n dX4_sorted_13 rfl rfl ?_
    refine mt_alen dX4_sorted_14 eN (by decide) ?_
    refine mt_icmp_ge dX4_sorted_15 (tgt := 33) rfl (fun q3 => ?_) (fun q3 => ?_)
    · have q3 := Int32.not_lt.mpr q3
      have q3 := (not_congr (nI_ltI (by omega) (by omega))).mp q3
      exact kk0 k h g9 eN ((show P = P9 from (mlp_end (f := scS (S.1 r)) (by omega)).symm.trans hr9) ▸ hg) hfr
    · have q3 := Int32.not_le.mp q3
      have q3 := (nI_ltI (by omega) (by omega)).mp q3
      refine mt_aload_n dX4_sorted_18 rfl rfl ?_
      refine mt_aload_n dX4_sorted_19 rfl rfl ?_
      refine mt_iload_n dX4_sorted_20 rfl ?_
      refine mt_iload_n dX4_sorted_21 rfl ?_
      refine mt_callV (N := mX4_ranked) (Rc := rX4_ranked) (As := [.int (nI r), .int (nI k)]) (st := [.ref n]) dX4_sorted_22 (kX4_ranked hl C0 (mRows.fr (n' := n + 1) HR (by omega) (fun j j1 j2 j3 => rfl) (by omega)) (by omega) (by omega)) sX4_ranked mw_1191 mKX4 rfl C0 rfl (Nat.le_of_ble_eq_true rfl) ⟨⟨Nat.le_of_ble_eq_true rfl, Nat.le_of_ble_eq_true rfl⟩, (by simp only [rX4_sorted, rX4_ranked]; omega), (by simp only [rX4_sorted, rX4_ranked]; omega)⟩ (fun v4 h5 n6 c7 => ?_) (fun _ _ _ hx => hx.elim)
      obtain ⟨c7a, c7b, c7c⟩ := c7
      rw [c7a, c7b, c7c]
      show mT _ _ _ _ 25 [.ref 27, .int (nI r), .ref n, .int (nI k)] [.int (nI (rankf (S.1 r) k)), .ref n] _ _ _ _
      have rl2 := rankf_lt (xs := (S.1 r)) (k := k) (by omega)
      refine mt_iload_n dX4_sorted_25 rfl ?_
      refine mp_iastore dX4_sorted_26 eN rfl (by omega) (by omega) (fun h8 e9 f10 => ?_)
      refine mp_iinc dX4_sorted_27 rfl (v := nI (k + 1)) mI_inc (ls' := [.ref 27, .int (nI r), .ref n, .int (nI (k + 1))]) rfl (by decide) rfl ?_
      refine mt_goto dX4_sorted_30 (tgt := 12) rfl ?_
      exact ih (k + 1) h8 (upd g9 (rankf (S.1 r) k) (nI k)) (scS (S.1 r) k P) (by omega) ((f10 (27) (by omega)).trans C0) (mRows.fr HR (Nat.le_refl _) (fun j j1 j2 j3 => f10 j (by omega)) h39) e9 (fun i => by unfold scS upd; split; rfl; exact hg i) (fun j hj => (f10 j (by omega)).trans (hfr j hj)) ((mlp_go (f := scS (S.1 r)) (by omega) rfl).symm.trans hr9) (by omega)
set_option maxRecDepth 100000 in
set_option maxHeartbeats 2000000 in
theorem kX4_sorted {l : Launch} (hl : l.stackTraces = false) {h : mH} {n : Nat} {S : cS} {kx sx : Nat → Nat} {g ac rf kn th : Int32} {r : Nat} (C0 : h 27 = .inr (.inr (6, [.ref 28, .ref 33, .int g, .int ac, .int rf, .int kn, .int th]))) (HR : mRows h n S kx sx) (h39 : 39 ≤ n) (hr : r < 4) : mC l mX4_sorted rX4_sorted [.ref 27, .int (nI r)] h n (mArr (S.1 r).length (fun i => nI (scat (S.1 r) i)) h n) (mNX) := by
  obtain ⟨⟨gk_1, G28_1, GK_1⟩, ⟨gs_1, G33_1, GS_1⟩, AK_1, AS_1, NE_1, NQ_1, LE_1⟩ := id HR
  obtain ⟨⟨ka_2, kb_2, kc_2, kd_2⟩, kf_2, ke_2, kg_2⟩ := AK_1 r hr
  obtain ⟨⟨sa_2, sb_2, sc_2, sd_2⟩, sf_2, se_2, sg_2⟩ := AS_1 r hr
  have kn_2 := NE_1 r r hr hr
  have kl_2 := LE_1 r hr
  have km_2 := rroom_le (r := r)
  refine mm_enter hl (by decide +kernel) rfl rfl rfl (Nat.le_of_ble_eq_true rfl) ?_
  show mT _ _ _ _ 0 [.ref 27, .int (nI r), .double 0, .double 0] [] _ _ 0 0
  refine mt_aload_n dX4_sorted_0 rfl rfl ?_
  refine mt_getfield mKX4 (i := 0) (by decide) mw_1053 dX4_sorted_1 C0 rfl ?_
  refine mt_iload_n dX4_sorted_4 rfl ?_
  refine mp_aaload dX4_sorted_5 G28_1 (fun _ => rfl) rfl rfl (by omega) (by omega) (v := .ref (kx r)) (by rw [GK_1 _ (by omega)]; rfl) ?_
  refine mt_alen dX4_sorted_6 ke_2 (by decide) ?_
  refine mp_newarray dX4_sorted_7 mw_87 rfl (by omega) (by simp only [rX4_sorted]; omega) (by simp only [rX4_sorted]; omega) (fun h3 e4 f5 => ?_)
  refine mp_astore_n dX4_sorted_9 (ls' := [.ref 27, .int (nI r), .ref n, .double 0]) rfl rfl (by decide) rfl ?_
  refine mt_iconst dX4_sorted_10 (v := nI 0) rfl ?_
  refine mp_istore_n dX4_sorted_11 (ls' := [.ref 27, .int (nI r), .ref n, .int (nI 0)]) rfl (by decide) rfl ?_
  refine tX4_sorted_12 hl h39 hr (fun k_6 h_7 g9_8 z9 z10 z11 => ?_) _ 0 h3 (fun _ => (0 : Int32)) (fun _ => 0) (Nat.lt_succ_self _) ((f5 (27) (by omega)).trans C0) (mRows.fr HR (Nat.le_refl _) (fun j j1 j2 j3 => f5 j (by omega)) h39) e4 (fun _ => rfl) (fun _ _ => rfl) rfl (by omega)
  refine mt_aload_n dX4_sorted_33 rfl rfl ?_
  refine mt_areturn dX4_sorted_34 rfl (by first | exact Or.inl ⟨_, rfl⟩ | exact Or.inr ⟨_, rfl⟩) rfl (by simp only [rX4_sorted, rX4_ranked]; omega) (by simp only [rX4_sorted, rX4_ranked]; omega) ?_
  exact ⟨rfl, rfl, ⟨_, z9, fun i _ => z10 i⟩, fun j hj => (z11 j hj).trans (f5 j (by omega))⟩
abbrev rX4_choose : Room := { frames := 0, cells := 2, slots := 640, locals := 0 }
set_option maxRecDepth 100000 in
set_option maxHeartbeats 2000000 in
theorem tX4_choose_14 {l : Launch} {R : Room} {K : mK} {cc sc : Nat} {n : Nat} {S : cS} {kx sx : Nat → Nat} {g ac rf kn th : Int32} {r : Nat} {p plen : Nat} {pf : Nat → Int32} {pl : Nat → Nat} {h0 : mH} (h39 : 39 ≤ n) (hr : r < 4) (hpl : ∀ i, i < plen → pf i = nI (pl i) ∧ pl i < (S.1 r).length) (hpm : plen ≤ rroom r) (hpn : p < n) (kk0 : ∀ (k : Nat) (h : mH) (g1 : Nat → Int32) (g2 : Nat → Int32), (h 27 = .inr (.inr (6, [.ref 28, .ref 33, .int g, .int ac, .int rf, .int kn, .int th]))) → (h n = .inl (0, plen, g1)) → (h (n + 1) = .inl (0, plen, g2)) → (∀ i, i < plen → g1 i = xk (S.1 r) (pl i)) → (∀ i, i < plen → g2 i = xt (S.1 r) (pl i)) → (∀ j, j < n → h j = h0 j) → mT l mX4_choose R K 58 [.ref 27, .int (nI r), .ref p, .ref n, .ref (n + 1), .int (nI k)] [] h (n + 2) cc sc) : ∀ (N0 : Nat) (k : Nat) (h : mH) (g1 : Nat → Int32) (g2 : Nat → Int32), (plen - k) < N0 → (h 27 = .inr (.inr (6, [.ref 28, .ref 33, .int g, .int ac, .int rf, .int kn, .int th]))) → (mRows h n S kx sx) → (h p = .inl (0, plen, pf)) → (h n = .inl (0, plen, g1)) → (h (n + 1) = .inl (0, plen, g2)) → (∀ i, i < k → g1 i = xk (S.1 r) (pl i)) → (∀ i, i < k → g2 i = xt (S.1 r) (pl i)) → (∀ j, j < n → h j = h0 j) → (k ≤ plen) → mT l mX4_choose R K 14 [.ref 27, .int (nI r), .ref p, .ref n, .ref (n + 1), .int (nI k)] [] h (n + 2) cc sc := by
  intro N0
  induction N0 with
  | zero => intro k h g1 g2 hm; exact absurd hm (Nat.not_lt_zero _)
  | succ N0 ih =>
    intro k h g1 g2 hm C0 HR ep eN eM hg1 hg2 hfr hk
    obtain ⟨⟨gk_1, G28_1, GK_1⟩, ⟨gs_1, G33_1, GS_1⟩, AK_1, AS_1, NE_1, NQ_1, LE_1⟩ := id HR
    obtain ⟨⟨ka_2, kb_2, kc_2, kd_2⟩, kf_2, ke_2, kg_2⟩ := AK_1 r hr
    obtain ⟨⟨sa_2, sb_2, sc_2, sd_2⟩, sf_2, se_2, sg_2⟩ := AS_1 r hr
    have kn_2 := NE_1 r r hr hr
    have kl_2 := LE_1 r hr
    have km_2 := rroom_le (r := r)
    refine mt_iload dX4_choose_14 rfl ?_
    refine mt_aload_n dX4_choose_16 rfl rfl ?_
    refine mt_alen dX4_choose_17 ep (by decide) ?_
    refine mt_icmp_ge dX4_choose_18 (tgt := 58) rfl (fun q3 => ?_) (fun q3 => ?_)
    · have q3 := Int32.not_lt.mpr q3
      have q3 := (not_congr (nI_ltI (by omega) (by omega))).mp q3
      exact kk0 k h g1 g2 C0 eN eM (fun i hi => hg1 i (by omega)) (fun i hi => hg2 i (by omega)) hfr
    · have q3 := Int32.not_le.mp q3
      have q3 := (nI_ltI (by omega) (by omega)).mp q3
      have hpk := (hpl k (by omega)).2
      refine mt_aload_n dX4_choose_21 rfl rfl ?_
      refine mt_iload dX4_choose_22 rfl ?_
      refine mt_aload_n dX4_choose_24 rfl rfl ?_
      refine mt_getfield mKX4 (i := 0) (by decide) mw_1053 dX4_choose_25 C0 rfl ?_
      refine mt_iload_n dX4_choose_28 rfl ?_
      refine mp_aaload dX4_choose_29 G28_1 (fun _ => rfl) rfl rfl (by omega) (by omega) (v := .ref (kx r)) (by rw [GK_1 _ (by omega)]; rfl) ?_
      refine mt_aload_n dX4_choose_30 rfl rfl ?_
      refine mt_iload dX4_choose_31 rfl ?_
      refine mp_iaload dX4_choose_33 ep rfl (by omega) (by omega) (v := nI (pl k)) ((hpl _ (by omega)).1) ?_
      refine mp_iaload dX4_choose_34 ke_2 rfl (by omega) (by omega) (v := xk (S.1 r) (pl k)) (kg_2 _ (by omega)) ?_
      refine mp_iastore dX4_choose_35 eN rfl (by omega) (by omega) (fun h4 e5 f6 => ?_)
      refine mt_aload dX4_choose_36 rfl rfl ?_
      refine mt_iload dX4_choose_38 rfl ?_
      refine mt_aload_n dX4_choose_40 rfl rfl ?_
      refine mt_getfield mKX4 (i := 1) (by decide) mw_1054 dX4_choose_41 ((f6 (27) (by omega)).trans C0) rfl ?_
      refine mt_iload_n dX4_choose_44 rfl ?_
      refine mp_aaload dX4_choose_45 ((f6 (33) (by omega)).trans G33_1) (fun _ => rfl) rfl rfl (by omega) (by omega) (v := .ref (sx r)) (by rw [GS_1 _ (by omega)]; rfl) ?_
      refine mt_aload_n dX4_choose_46 rfl rfl ?_
      refine mt_iload dX4_choose_47 rfl ?_
      refine mp_iaload dX4_choose_49 ((f6 (p) (by omega)).trans ep) rfl (by omega) (by omega) (v := nI (pl k)) ((hpl _ (by omega)).1) ?_
      refine mp_iaload dX4_choose_50 ((f6 (sx r) (by omega)).trans se_2) rfl (by omega) (by omega) (v := xt (S.1 r) (pl k)) (sg_2 _ (by omega)) ?_
      refine mp_iastore dX4_choose_51 ((f6 (n + 1) (by omega)).trans eM) rfl (by omega) (by omega) (fun h7 e8 f9 => ?_)
      refine mp_iinc dX4_choose_52 rfl (v := nI (k + 1)) mI_inc (ls' := [.ref 27, .int (nI r), .ref p, .ref n, .ref (n + 1), .int (nI (k + 1))]) rfl (by decide) rfl ?_
      refine mt_goto dX4_choose_55 (tgt := 14) rfl ?_
      exact ih (k + 1) h7 (upd g1 k (xk (S.1 r) (pl k))) (upd g2 k (xt (S.1 r) (pl k))) (by omega) ((f9 (27) (by omega)).trans ((f6 (27) (by omega)).trans C0)) (mRows.fr HR (Nat.le_refl _) (fun j j1 j2 j3 => (f9 j (by omega)).trans (f6 j (by omega))) h39) ((f9 (p) (by omega)).trans ((f6 (p) (by omega)).trans ep)) ((f9 (n) (by omega)).trans e5) e8 (arr_step (F := fun i => xk (S.1 r) (pl i)) hg1 rfl) (arr_step (F := fun i => xt (S.1 r) (pl i)) hg2 rfl) (fun j hj => ((f9 j (by omega)).trans (f6 j (by omega))).trans (hfr j hj)) (by omega)
theorem chF_len {xs : List mIt} {pl : Nat → Nat} {n : Nat} : (chF xs pl n).length = n := zipF_len
set_option maxRecDepth 100000 in
set_option maxHeartbeats 2000000 in
theorem kX4_choose {l : Launch} (hl : l.stackTraces = false) {h : mH} {n : Nat} {S : cS} {kx sx : Nat → Nat} {g ac rf kn th : Int32} {r : Nat} {p plen : Nat} {pf : Nat → Int32} {pl : Nat → Nat} (C0 : h 27 = .inr (.inr (6, [.ref 28, .ref 33, .int g, .int ac, .int rf, .int kn, .int th]))) (HR : mRows h n S kx sx) (h39 : 39 ≤ n) (hr : r < 4) (ep : h p = .inl (0, plen, pf)) (hpl : ∀ i, i < plen → pf i = nI (pl i) ∧ pl i < (S.1 r).length) (hpm : plen ≤ rroom r) (hpn : p < n) : mC l mX4_choose rX4_choose [.ref 27, .int (nI r), .ref p] h n (fun v h' n' => v = none ∧ n' = n + 2 ∧ mRows h' (n + 2) (cSet S r (chF (S.1 r) pl plen)) (fun q => if q = r then n else kx q) (fun q => if q = r then n + 1 else sx q) ∧ h' 27 = .inr (.inr (6, [.ref 28, .ref 33, .int g, .int ac, .int rf, .int kn, .int th])) ∧ ∀ j, j < n → j ≠ 28 → j ≠ 33 → h' j = h j) (mNX) := by
  obtain ⟨⟨gk_1, G28_1, GK_1⟩, ⟨gs_1, G33_1, GS_1⟩, AK_1, AS_1, NE_1, NQ_1, LE_1⟩ := id HR
  obtain ⟨⟨ka_2, kb_2, kc_2, kd_2⟩, kf_2, ke_2, kg_2⟩ := AK_1 r hr
  obtain ⟨⟨sa_2, sb_2, sc_2, sd_2⟩, sf_2, se_2, sg_2⟩ := AS_1 r hr
  have kn_2 := NE_1 r r hr hr
  have kl_2 := LE_1 r hr
  have km_2 := rroom_le (r := r)
  refine mm_enter hl (by decide +kernel) rfl rfl rfl (Nat.le_of_ble_eq_true rfl) ?_
  show mT _ _ _ _ 0 [.ref 27, .int (nI r), .ref p, .double 0, .double 0, .double 0] [] _ _ 0 0
  refine mt_aload_n dX4_choose_0 rfl rfl ?_
  refine mt_alen dX4_choose_1 ep (by decide) ?_
  refine mp_newarray dX4_choose_2 mw_87 rfl (by omega) (by simp only [rX4_choose]; omega) (by simp only [rX4_choose]; omega) (fun h3 e4 f5 => ?_)
  refine mp_astore_n dX4_choose_4 (ls' := [.ref 27, .int (nI r), .ref p, .ref n, .double 0, .double 0]) rfl rfl (by decide) rfl ?_
  refine mt_aload_n dX4_choose_5 rfl rfl ?_
  refine mt_alen dX4_choose_6 ((f5 (p) (by omega)).trans ep) (by decide) ?_
  refine mp_newarray dX4_choose_7 mw_87 rfl (by omega) (by simp only [rX4_choose]; omega) (by simp only [rX4_choose]; omega) (fun h6 e7 f8 => ?_)
  refine mp_astore dX4_choose_9 (ls' := [.ref 27, .int (nI r), .ref p, .ref n, .ref (n + 1), .double 0]) rfl rfl (by decide) rfl ?_
  refine mt_iconst dX4_choose_11 (v := nI 0) rfl ?_
  refine mp_istore dX4_choose_12 (ls' := [.ref 27, .int (nI r), .ref p, .ref n, .ref (n + 1), .int (nI 0)]) rfl (by decide) rfl ?_
  refine tX4_choose_14 h39 hr hpl hpm hpn (fun k_9 h_10 g1_11 g2_12 z13 z14 z15 z16 z17 z18 => ?_) _ 0 h6 (fun _ => (0 : Int32)) (fun _ => (0 : Int32)) (Nat.lt_succ_self _) ((f8 (27) (by omega)).trans ((f5 (27) (by omega)).trans C0)) (mRows.fr HR (Nat.le_refl _) (fun j j1 j2 j3 => (f8 j (by omega)).trans (f5 j (by omega))) h39) ((f8 (p) (by omega)).trans ((f5 (p) (by omega)).trans ep)) ((f8 (n) (by omega)).trans e4) e7 (fun i hi => absurd hi (by omega)) (fun i hi => absurd hi (by omega)) (fun _ _ => rfl) (by omega)
  refine mt_aload_n dX4_choose_58 rfl rfl ?_
  refine mt_getfield mKX4 (i := 0) (by decide) mw_1053 dX4_choose_59 ((z18 (27) (by omega)).trans ((f8 (27) (by omega)).trans ((f5 (27) (by omega)).trans C0))) rfl ?_
  refine mt_iload_n dX4_choose_62 rfl ?_
  refine mt_aload_n dX4_choose_63 rfl rfl ?_
  refine mp_aastoreA dX4_choose_64 ((z18 (28) (by omega)).trans ((f8 (28) (by omega)).trans ((f5 (28) (by omega)).trans G28_1))) z14 rfl (by omega) (by omega) (fun h19 e20 f21 => ?_)
  refine mt_aload_n dX4_choose_65 rfl rfl ?_
  refine mt_getfield mKX4 (i := 1) (by decide) mw_1054 dX4_choose_66 ((f21 (27) (by omega)).trans ((z18 (27) (by omega)).trans ((f8 (27) (by omega)).trans ((f5 (27) (by omega)).trans C0)))) rfl ?_
  refine mt_iload_n dX4_choose_69 rfl ?_
  refine mt_aload dX4_choose_70 rfl rfl ?_
  refine mp_aastoreA dX4_choose_72 ((f21 (33) (by omega)).trans ((z18 (33) (by omega)).trans ((f8 (33) (by omega)).trans ((f5 (33) (by omega)).trans G33_1)))) ((f21 (n + 1) (by omega)).trans z15) rfl (by omega) (by omega) (fun h22 e23 f24 => ?_)
  refine mt_return dX4_choose_73 rfl (by simp only [rX4_choose]; omega) (by simp only [rX4_choose]; omega) ?_
  refine ⟨rfl, rfl, mRows.upd (fk := g1_11) (fs := g2_12) HR h39 (by omega) hr ⟨by omega, by omega⟩ ⟨by omega, by omega⟩ (by omega) ((f24 (28) (by omega)).trans e20) (if_pos rfl) (fun q hq hne => (if_neg hne).trans (GK_1 q hq)) (e23) (if_pos rfl) (fun q hq hne => (if_neg hne).trans (GS_1 q hq)) (by rw [chF_len]; exact (f24 (n) (by omega)).trans ((f21 (n) (by omega)).trans z14)) (by rw [chF_len]; exact (f24 (n + 1) (by omega)).trans ((f21 (n + 1) (by omega)).trans z15)) (fun i hi => ?_) (fun i hi => ?_) (by rw [chF_len]; exact hpm) (fun j j1 j2 j3 j4 => (f24 j (by omega)).trans ((f21 j (by omega)).trans ((z18 j (by omega)).trans ((f8 j (by omega)).trans (f5 j (by omega)))))), (f24 (27) (by omega)).trans ((f21 (27) (by omega)).trans ((z18 (27) (by omega)).trans ((f8 (27) (by omega)).trans ((f5 (27) (by omega)).trans C0)))), fun j j1 j2 j3 => (f24 j (by omega)).trans ((f21 j (by omega)).trans ((z18 j (by omega)).trans ((f8 j (by omega)).trans (f5 j (by omega)))))⟩
  · rw [chF_len] at hi; rw [z16 i hi]; exact (xk_zip (f := fun k => xk (S.1 r) (pl k)) (g := fun k => xt (S.1 r) (pl k)) hi).symm
  · rw [chF_len] at hi; rw [z17 i hi]; exact (xt_zip (f := fun k => xk (S.1 r) (pl k)) (g := fun k => xt (S.1 r) (pl k)) hi).symm
abbrev rX4_change : Room := { frames := 0, cells := 0, slots := 0, locals := 0 }
set_option maxRecDepth 100000 in
set_option maxHeartbeats 2000000 in
theorem kX4_change {l : Launch} (hl : l.stackTraces = false) {h : mH} {n : Nat} {S : cS} {kx sx : Nat → Nat} {g ac rf kn th : Int32} {r : Nat} {p q : Nat} (C0 : h 27 = .inr (.inr (6, [.ref 28, .ref 33, .int g, .int ac, .int rf, .int kn, .int th]))) (HR : mRows h n S kx sx) (h39 : 39 ≤ n) (hr : r < 4) (hp : p < (S.1 r).length) (hq : q < (S.1 r).length) : mC l mX4_change rX4_change [.ref 27, .int (nI r), .int (nI p), .int (nI q)] h n (fun v h' n' => v = none ∧ n' = n ∧ mRows h' n (cSet S r (swp (S.1 r) p q)) kx sx ∧ h' 27 = .inr (.inr (6, [.ref 28, .ref 33, .int g, .int ac, .int rf, .int kn, .int th])) ∧ ∀ j, (j < 27 ∨ j = 38) → h' j = h j) (mNX) := by
  obtain ⟨⟨gk_1, G28_1, GK_1⟩, ⟨gs_1, G33_1, GS_1⟩, AK_1, AS_1, NE_1, NQ_1, LE_1⟩ := id HR
  obtain ⟨⟨ka_2, kb_2, kc_2, kd_2⟩, kf_2, ke_2, kg_2⟩ := AK_1 r hr
  obtain ⟨⟨sa_2, sb_2, sc_2, sd_2⟩, sf_2, se_2, sg_2⟩ := AS_1 r hr
  have kn_2 := NE_1 r r hr hr
  have kl_2 := LE_1 r hr
  have km_2 := rroom_le (r := r)
  refine mm_enter hl (by decide +kernel) rfl rfl rfl (Nat.le_of_ble_eq_true rfl) ?_
  show mT _ _ _ _ 0 [.ref 27, .int (nI r), .int (nI p), .int (nI q), .double 0, .double 0] [] _ _ 0 0
  refine mt_aload_n dX4_change_0 rfl rfl ?_
  refine mt_getfield mKX4 (i := 0) (by decide) mw_1053 dX4_change_1 C0 rfl ?_
  refine mt_iload_n dX4_change_4 rfl ?_
  refine mp_aaload dX4_change_5 G28_1 (fun _ => rfl) rfl rfl (by omega) (by omega) (v := .ref (kx r)) (by rw [GK_1 _ (by omega)]; rfl) ?_
  refine mt_iload_n dX4_change_6 rfl ?_
  refine mp_iaload dX4_change_7 ke_2 rfl (by omega) (by omega) (v := xk (S.1 r) p) (kg_2 _ (by omega)) ?_
  refine mp_istore dX4_change_8 (ls' := [.ref 27, .int (nI r), .int (nI p), .int (nI q), .int (xk (S.1 r) p), .double 0]) rfl (by decide) rfl ?_
  refine mt_aload_n dX4_change_10 rfl rfl ?_
  refine mt_getfield mKX4 (i := 1) (by decide) mw_1054 dX4_change_11 C0 rfl ?_
  refine mt_iload_n dX4_change_14 rfl ?_
  refine mp_aaload dX4_change_15 G33_1 (fun _ => rfl) rfl rfl (by omega) (by omega) (v := .ref (sx r)) (by rw [GS_1 _ (by omega)]; rfl) ?_
  refine mt_iload_n dX4_change_16 rfl ?_
  refine mp_iaload dX4_change_17 se_2 rfl (by omega) (by omega) (v := xt (S.1 r) p) (sg_2 _ (by omega)) ?_
  refine mp_istore dX4_change_18 (ls' := [.ref 27, .int (nI r), .int (nI p), .int (nI q), .int (xk (S.1 r) p), .int (xt (S.1 r) p)]) rfl (by decide) rfl ?_
  refine mt_aload_n dX4_change_20 rfl rfl ?_
  refine mt_getfield mKX4 (i := 0) (by decide) mw_1053 dX4_change_21 C0 rfl ?_
  refine mt_iload_n dX4_change_24 rfl ?_
  refine mp_aaload dX4_change_25 G28_1 (fun _ => rfl) rfl rfl (by omega) (by omega) (v := .ref (kx r)) (by rw [GK_1 _ (by omega)]; rfl) ?_
  refine mt_iload_n dX4_change_26 rfl ?_
  refine mt_aload_n dX4_change_27 rfl rfl ?_
  refine mt_getfield mKX4 (i := 0) (by decide) mw_1053 dX4_change_28 C0 rfl ?_
  refine mt_iload_n dX4_change_31 rfl ?_
  refine mp_aaload dX4_change_32 G28_1 (fun _ => rfl) rfl rfl (by omega) (by omega) (v := .ref (kx r)) (by rw [GK_1 _ (by omega)]; rfl) ?_
  refine mt_iload_n dX4_change_33 rfl ?_
  refine mp_iaload dX4_change_34 ke_2 rfl (by omega) (by omega) (v := xk (S.1 r) q) (kg_2 _ (by omega)) ?_
  refine mp_iastore dX4_change_35 ke_2 rfl (by omega) (by omega) (fun h3 e4 f5 => ?_)
  refine mt_aload_n dX4_change_36 rfl rfl ?_
  refine mt_getfield mKX4 (i := 1) (by decide) mw_1054 dX4_change_37 ((f5 (27) (by omega)).trans C0) rfl ?_
  refine mt_iload_n dX4_change_40 rfl ?_
  refine mp_aaload dX4_change_41 ((f5 (33) (by omega)).trans G33_1) (fun _ => rfl) rfl rfl (by omega) (by omega) (v := .ref (sx r)) (by rw [GS_1 _ (by omega)]; rfl) ?_
  refine mt_iload_n dX4_change_42 rfl ?_
  refine mt_aload_n dX4_change_43 rfl rfl ?_
  refine mt_getfield mKX4 (i := 1) (by decide) mw_1054 dX4_change_44 ((f5 (27) (by omega)).trans C0) rfl ?_
  refine mt_iload_n dX4_change_47 rfl ?_
  refine mp_aaload dX4_change_48 ((f5 (33) (by omega)).trans G33_1) (fun _ => rfl) rfl rfl (by omega) (by omega) (v := .ref (sx r)) (by rw [GS_1 _ (by omega)]; rfl) ?_
  refine mt_iload_n dX4_change_49 rfl ?_
  refine mp_iaload dX4_change_50 ((f5 (sx r) (by omega)).trans se_2) rfl (by omega) (by omega) (v := xt (S.1 r) q) (sg_2 _ (by omega)) ?_
  refine mp_iastore dX4_change_51 ((f5 (sx r) (by omega)).trans se_2) rfl (by omega) (by omega) (fun h6 e7 f8 => ?_)
  refine mt_aload_n dX4_change_52 rfl rfl ?_
  refine mt_getfield mKX4 (i := 0) (by decide) mw_1053 dX4_change_53 ((f8 (27) (by omega)).trans ((f5 (27) (by omega)).trans C0)) rfl ?_
  refine mt_iload_n dX4_change_56 rfl ?_
  refine mp_aaload dX4_change_57 ((f8 (28) (by omega)).trans ((f5 (28) (by omega)).trans G28_1)) (fun _ => rfl) rfl rfl (by omega) (by omega) (v := .ref (kx r)) (by rw [GK_1 _ (by omega)]; rfl) ?_
  refine mt_iload_n dX4_change_58 rfl ?_
  refine mt_iload dX4_change_59 rfl ?_
  refine mp_iastore dX4_change_61 ((f8 (kx r) (by omega)).trans e4) rfl (by omega) (by omega) (fun h9 e10 f11 => ?_)
  refine mt_aload_n dX4_change_62 rfl rfl ?_
  refine mt_getfield mKX4 (i := 1) (by decide) mw_1054 dX4_change_63 ((f11 (27) (by omega)).trans ((f8 (27) (by omega)).trans ((f5 (27) (by omega)).trans C0))) rfl ?_
  refine mt_iload_n dX4_change_66 rfl ?_
  refine mp_aaload dX4_change_67 ((f11 (33) (by omega)).trans ((f8 (33) (by omega)).trans ((f5 (33) (by omega)).trans G33_1))) (fun _ => rfl) rfl rfl (by omega) (by omega) (v := .ref (sx r)) (by rw [GS_1 _ (by omega)]; rfl) ?_
  refine mt_iload_n dX4_change_68 rfl ?_
  refine mt_iload dX4_change_69 rfl ?_
  refine mp_iastore dX4_change_71 ((f11 (sx r) (by omega)).trans e7) rfl (by omega) (by omega) (fun h12 e13 f14 => ?_)
  refine mt_return dX4_change_72 rfl (Nat.le_of_ble_eq_true rfl) (Nat.le_of_ble_eq_true rfl) ?_
  exact ⟨rfl, rfl, mRows.put HR h39 (Nat.le_refl _) hr swp_len (by rw [swp_len]; exact (f14 (kx r) (by omega)).trans e10) (by rw [swp_len]; exact e13) (by rw [swp_len]; exact swp_k hp hq kg_2) (by rw [swp_len]; exact swp_t hp hq sg_2) (fun j j1 j2 j3 j4 j5 => (f14 j (by omega)).trans ((f11 j (by omega)).trans ((f8 j (by omega)).trans (f5 j (by omega))))), (f14 (27) (by omega)).trans ((f11 (27) (by omega)).trans ((f8 (27) (by omega)).trans ((f5 (27) (by omega)).trans C0))), fun j hj => (f14 j (by omega)).trans ((f11 j (by omega)).trans ((f8 j (by omega)).trans (f5 j (by omega))))⟩
abbrev rX4_coming : Room := { frames := 1, cells := 1, slots := 640, locals := 24 }
set_option maxRecDepth 100000 in
set_option maxHeartbeats 2000000 in
theorem kX4_coming {l : Launch} (hl : l.stackTraces = false) {h : mH} {n : Nat} {S : cS} {kx sx : Nat → Nat} {g ac rf kn th : Int32} {r : Nat} {q : Nat} (C0 : h 27 = .inr (.inr (6, [.ref 28, .ref 33, .int g, .int ac, .int rf, .int kn, .int th]))) (HR : mRows h n S kx sx) (h39 : 39 ≤ n) (hr : r < 4) (hq : q < 4) : mC l mX4_coming rX4_coming [.ref 27, .int (nI r), .int (nI q)] h n (fun v h' n' => v = some (.ref n) ∧ n' = n + 1 ∧ (∃ g9 : Nat → Int32, h' n = .inl (0, (S.1 r).length, g9) ∧ ∀ i, i < (S.1 r).length → g9 i = comF q r (S.1 r).length (S.1 r) g i) ∧ h' 27 = .inr (.inr (6, [.ref 28, .ref 33, .int (comG q r (S.1 r).length g), .int ac, .int rf, .int kn, .int th])) ∧ ∀ j, j ≠ n → j ≠ 27 → h' j = h j) (mNX) := by
  obtain ⟨⟨gk_1, G28_1, GK_1⟩, ⟨gs_1, G33_1, GS_1⟩, AK_1, AS_1, NE_1, NQ_1, LE_1⟩ := id HR
  obtain ⟨⟨ka_2, kb_2, kc_2, kd_2⟩, kf_2, ke_2, kg_2⟩ := AK_1 r hr
  obtain ⟨⟨sa_2, sb_2, sc_2, sd_2⟩, sf_2, se_2, sg_2⟩ := AS_1 r hr
  have kn_2 := NE_1 r r hr hr
  have kl_2 := LE_1 r hr
  have km_2 := rroom_le (r := r)
  refine mm_enter hl (by decide +kernel) rfl rfl rfl (Nat.le_of_ble_eq_true rfl) ?_
  show mT _ _ _ _ 0 [.ref 27, .int (nI r), .int (nI q)] [] _ _ 0 0
  refine mt_iload_n dX4_coming_0 rfl ?_
  refine mt_iconst dX4_coming_1 (v := nI 1) rfl ?_
  refine mt_icmp_gt dX4_coming_2 (tgt := 10) rfl (fun q3 => ?_) (fun q3 => ?_)
  · have q3 := (nI_ltI (by omega) (by omega)).mp q3
    refine mt_aload_n dX4_coming_10 rfl rfl ?_
    refine mt_iload_n dX4_coming_11 rfl ?_
    refine mt_aload_n dX4_coming_12 rfl rfl ?_
    refine mt_getfield mKX4 (i := 0) (by decide) mw_1053 dX4_coming_13 C0 rfl ?_
    refine mt_iload_n dX4_coming_16 rfl ?_
    refine mp_aaload dX4_coming_17 G28_1 (fun _ => rfl) rfl rfl (by omega) (by omega) (v := .ref (kx r)) (by rw [GK_1 _ (by omega)]; rfl) ?_
    refine mt_alen dX4_coming_18 ke_2 (by decide) ?_
    refine mt_callV (N := mX4_made) (Rc := rX4_made) (As := [.int (nI q), .int (nI ((S.1 r).length))]) (st := []) dX4_coming_19 (kX4_made hl C0 (by omega) (by omega) (by omega)) sX4_made mw_1101 mKX4 rfl C0 rfl (Nat.le_of_ble_eq_true rfl) ⟨⟨Nat.le_of_ble_eq_true rfl, Nat.le_of_ble_eq_true rfl⟩, Nat.le_of_ble_eq_true rfl, Nat.le_of_ble_eq_true rfl⟩ (fun v4 h5 n6 c7 => ?_) (fun _ _ _ hx => hx.elim)
    obtain ⟨c7a, c7b, ⟨c7g, c7c, c7d⟩, c7f, c7e⟩ := c7
    rw [c7a, c7b]
    have c7k : ∀ j, j ≠ n ∧ j ≠ 27 → h5 j = h j := fun j hj => c7e j hj.1 hj.2
    show mT _ _ _ _ 22 [.ref 27, .int (nI r), .int (nI q)] [.ref n] _ _ _ _
    refine mt_areturn dX4_coming_22 rfl (by first | exact Or.inl ⟨_, rfl⟩ | exact Or.inr ⟨_, rfl⟩) rfl (Nat.le_of_ble_eq_true rfl) (Nat.le_of_ble_eq_true rfl) ?_
    exact ⟨rfl, rfl, ⟨_, c7c, fun i hi => (c7d i hi).trans (if_pos (show 1 < q ∨ 1 < r from Or.inl q3)).symm⟩, (c7f).trans (by rw [comG, if_pos (show 1 < q ∨ 1 < r from Or.inl q3)]), fun j hj hj2 => c7k j (by omega)⟩
  · have q3 := (not_congr (nI_ltI (by omega) (by omega))).mp q3
    refine mt_iload_n dX4_coming_5 rfl ?_
    refine mt_iconst dX4_coming_6 (v := nI 1) rfl ?_
    refine mt_icmp_le dX4_coming_7 (tgt := 23) rfl (fun q8 => ?_) (fun q8 => ?_)
    · have q8 := Int32.not_lt.mpr q8
      have q8 := (not_congr (nI_ltI (by omega) (by omega))).mp q8
      refine mt_aload_n dX4_coming_23 rfl rfl ?_
      refine mt_getfield mKX4 (i := 1) (by decide) mw_1054 dX4_coming_24 C0 rfl ?_
      refine mt_iload_n dX4_coming_27 rfl ?_
      refine mp_aaload dX4_coming_28 G33_1 (fun _ => rfl) rfl rfl (by omega) (by omega) (v := .ref (sx r)) (by rw [GS_1 _ (by omega)]; rfl) ?_
      refine mt_iconst dX4_coming_29 (v := nI 0) rfl ?_
      refine mt_aload_n dX4_coming_30 rfl rfl ?_
      refine mt_getfield mKX4 (i := 1) (by decide) mw_1054 dX4_coming_31 C0 rfl ?_
      refine mt_iload_n dX4_coming_34 rfl ?_
      refine mp_aaload dX4_coming_35 G33_1 (fun _ => rfl) rfl rfl (by omega) (by omega) (v := .ref (sx r)) (by rw [GS_1 _ (by omega)]; rfl) ?_
      refine mt_alen dX4_coming_36 se_2 (by decide) ?_
      refine mt_callS (N := mX4_part) (Rc := rX4_part) (As := [.ref (sx r), .int (nI 0), .int (nI ((S.1 r).length))]) (st := []) dX4_coming_37 (kX4_part hl se_2 (by omega) (by omega) (by omega) (by omega)) sX4_part mw_1180 rfl (Nat.le_of_ble_eq_true rfl) ⟨⟨Nat.le_of_ble_eq_true rfl, Nat.le_of_ble_eq_true rfl⟩, Nat.le_of_ble_eq_true rfl, Nat.le_of_ble_eq_true rfl⟩ (fun v9 h10 n11 c12 => ?_) (fun _ _ _ hx => hx.elim)
      obtain ⟨c12a, c12b, ⟨c12g, c12c, c12d⟩, c12e⟩ := c12
      rw [c12a, c12b]
      show mT _ _ _ _ 40 [.ref 27, .int (nI r), .int (nI q)] [.ref n] _ _ _ _
      refine mt_areturn dX4_coming_40 rfl (by first | exact Or.inl ⟨_, rfl⟩ | exact Or.inr ⟨_, rfl⟩) rfl (Nat.le_of_ble_eq_true rfl) (Nat.le_of_ble_eq_true rfl) ?_
      exact ⟨rfl, rfl, ⟨_, c12c, fun i hi => (c12d i hi).trans ((show _ = xt (S.1 r) i from (congrArg sf_2 (Nat.zero_add i)).trans (sg_2 i (by omega))).trans (if_neg (show ¬ (1 < q ∨ 1 < r) from fun z => z.elim q3 q8)).symm)⟩, ((c12e (27) (by omega)).trans C0).trans (by rw [comG, if_neg (show ¬ (1 < q ∨ 1 < r) from fun z => z.elim q3 q8)]), fun j hj hj2 => c12e j (by omega)⟩
    · have q8 := Int32.not_le.mp q8
      have q8 := (nI_ltI (by omega) (by omega)).mp q8
      refine mt_aload_n dX4_coming_10 rfl rfl ?_
      refine mt_iload_n dX4_coming_11 rfl ?_
      refine mt_aload_n dX4_coming_12 rfl rfl ?_
      refine mt_getfield mKX4 (i := 0) (by decide) mw_1053 dX4_coming_13 C0 rfl ?_
      refine mt_iload_n dX4_coming_16 rfl ?_
      refine mp_aaload dX4_coming_17 G28_1 (fun _ => rfl) rfl rfl (by omega) (by omega) (v := .ref (kx r)) (by rw [GK_1 _ (by omega)]; rfl) ?_
      refine mt_alen dX4_coming_18 ke_2 (by decide) ?_
      refine mt_callV (N := mX4_made) (Rc := rX4_made) (As := [.int (nI q), .int (nI ((S.1 r).length))]) (st := []) dX4_coming_19 (kX4_made hl C0 (by omega) (by omega) (by omega)) sX4_made mw_1101 mKX4 rfl C0 rfl (Nat.le_of_ble_eq_true rfl) ⟨⟨Nat.le_of_ble_eq_true rfl, Nat.le_of_ble_eq_true rfl⟩, Nat.le_of_ble_eq_true rfl, Nat.le_of_ble_eq_true rfl⟩ (fun v13 h14 n15 c16 => ?_) (fun _ _ _ hx => hx.elim)
      obtain ⟨c16a, c16b, ⟨c16g, c16c, c16d⟩, c16f, c16e⟩ := c16
      rw [c16a, c16b]
      have c16k : ∀ j, j ≠ n ∧ j ≠ 27 → h14 j = h j := fun j hj => c16e j hj.1 hj.2
      show mT _ _ _ _ 22 [.ref 27, .int (nI r), .int (nI q)] [.ref n] _ _ _ _
      refine mt_areturn dX4_coming_22 rfl (by first | exact Or.inl ⟨_, rfl⟩ | exact Or.inr ⟨_, rfl⟩) rfl (Nat.le_of_ble_eq_true rfl) (Nat.le_of_ble_eq_true rfl) ?_
      exact ⟨rfl, rfl, ⟨_, c16c, fun i hi => (c16d i hi).trans (if_pos (show 1 < q ∨ 1 < r from Or.inr q8)).symm⟩, (c16f).trans (by rw [comG, if_pos (show 1 < q ∨ 1 < r from Or.inr q8)]), fun j hj hj2 => c16k j (by omega)⟩
abbrev rX4_isPlace : Room := { frames := 2, cells := 0, slots := 0, locals := 42 }
theorem inR_m1 {x : Int32} : inR x (nI 0) (-1) = false := by
  unfold inR
  by_cases h : x < 0
  · rw [decide_eq_true (show x < nI 0 from h)]; rfl
  · rw [decide_eq_true (show (-1 : Int32) < x from Classical.byContradiction fun z => by
      have h2 : ¬ x < 0 := h
      rw [Int32.lt_iff_toInt_lt] at *
      have e0 : (0 : Int32).toInt = 0 := by decide
      have e1 : (-1 : Int32).toInt = -1 := by decide
      omega), Bool.not_true, Bool.and_false]
set_option maxRecDepth 100000 in
set_option maxHeartbeats 2000000 in
theorem kX4_isPlace {l : Launch} (hl : l.stackTraces = false) {h : mH} {n : Nat} {S : cS} {kx sx : Nat → Nat} {g ac rf kn th : Int32} {r : Nat} {place : Int32} (C0 : h 27 = .inr (.inr (6, [.ref 28, .ref 33, .int g, .int ac, .int rf, .int kn, .int th]))) (HR : mRows h n S kx sx) (h39 : 39 ≤ n) (hr : r < 4) : mC l mX4_isPlace rX4_isPlace [.ref 27, .int (nI r), .int place] h n (mRi (mb (inN (S.1 r).length place).isSome) h n) (mNX) := by
  obtain ⟨⟨gk_1, G28_1, GK_1⟩, ⟨gs_1, G33_1, GS_1⟩, AK_1, AS_1, NE_1, NQ_1, LE_1⟩ := id HR
  obtain ⟨⟨ka_2, kb_2, kc_2, kd_2⟩, kf_2, ke_2, kg_2⟩ := AK_1 r hr
  obtain ⟨⟨sa_2, sb_2, sc_2, sd_2⟩, sf_2, se_2, sg_2⟩ := AS_1 r hr
  have kn_2 := NE_1 r r hr hr
  have kl_2 := LE_1 r hr
  have km_2 := rroom_le (r := r)
  refine mm_enter hl (by decide +kernel) rfl rfl rfl (Nat.le_of_ble_eq_true rfl) ?_
  show mT _ _ _ _ 0 [.ref 27, .int (nI r), .int place] [] _ _ 0 0
  refine mt_iload_n dX4_isPlace_0 rfl ?_
  refine mt_callS (N := mX4_isRow) (Rc := rX4_isRow) (As := [.int (nI r)]) (st := []) dX4_isPlace_1 (kX4_isRow hl) sX4_isRow mw_1083 rfl (Nat.le_of_ble_eq_true rfl) ⟨⟨Nat.le_of_ble_eq_true rfl, Nat.le_of_ble_eq_true rfl⟩, Nat.le_of_ble_eq_true rfl, Nat.le_of_ble_eq_true rfl⟩ (fun v3 h4 n5 c6 => ?_) (fun _ _ _ hx => hx.elim)
  obtain ⟨c6a, c6b, c6c⟩ := c6
  rw [inN_some hr (by decide)] at c6a
  rw [c6a, c6b, c6c]
  show mT _ _ _ _ 4 [.ref 27, .int (nI r), .int place] [.int (nI 1)] _ _ _ _
  refine mt_if_eq dX4_isPlace_4 (tgt := 28) rfl (fun q7 => ?_) (fun q7 => ?_)
  · have q7 := (mI_eq0 (by omega)).mp q7
    exact absurd q7 (by decide)
  · have q7 := (not_congr (mI_eq0 (by omega))).mp q7
    refine mt_iload_n dX4_isPlace_7 rfl ?_
    refine mt_iconst dX4_isPlace_8 (v := nI 0) rfl ?_
    refine mt_aload_n dX4_isPlace_9 rfl rfl ?_
    refine mt_getfield mKX4 (i := 0) (by decide) mw_1053 dX4_isPlace_10 C0 rfl ?_
    refine mt_iload_n dX4_isPlace_13 rfl ?_
    refine mp_aaload dX4_isPlace_14 G28_1 (fun _ => rfl) rfl rfl (by omega) (by omega) (v := .ref (kx r)) (by rw [GK_1 _ (by omega)]; rfl) ?_
    refine mt_alen dX4_isPlace_15 ke_2 (by decide) ?_
    refine mt_iconst dX4_isPlace_16 (v := nI 1) rfl ?_
    by_cases q0 : (S.1 r).length = 0
    · refine mp_isub dX4_isPlace_17 (v := -1) (by rw [q0]; rfl) ?_
      refine mt_callS (N := mX4_isIn) (Rc := rX4_isIn) (As := [.int place, .int (nI 0), .int (-1)]) (st := []) dX4_isPlace_18 (kX4_isIn hl) sX4_isIn mw_1086 rfl (Nat.le_of_ble_eq_true rfl) ⟨⟨Nat.le_of_ble_eq_true rfl, Nat.le_of_ble_eq_true rfl⟩, Nat.le_of_ble_eq_true rfl, Nat.le_of_ble_eq_true rfl⟩ (fun v8 h9 n10 c11 => ?_) (fun _ _ _ hx => hx.elim)
      obtain ⟨c11a, c11b, c11c⟩ := c11
      rw [c11a, c11b, c11c]
      show mT _ _ _ _ 21 [.ref 27, .int (nI r), .int place] [.int (mb (inR place (nI 0) (-1)))] _ _ _ _
      refine mt_if_eq dX4_isPlace_21 (tgt := 28) rfl (fun q12 => ?_) (fun q12 => ?_)
      · have q12 : (inR place (nI 0) (-1)) = false := mb_0.mp q12
        refine mt_iconst dX4_isPlace_28 (v := nI 0) rfl ?_
        refine mt_ireturn dX4_isPlace_29 rfl rfl (Nat.le_of_ble_eq_true rfl) (Nat.le_of_ble_eq_true rfl) ?_
        exact ⟨congrArg (fun b => some (Value.int (mb b))) (show false = (inN (S.1 r).length place).isSome from by rw [q0, inN_0]; rfl), rfl, rfl⟩
      · have q12 : (inR place (nI 0) (-1)) = true := mb_1.mp q12
        refine mt_iconst dX4_isPlace_24 (v := nI 1) rfl ?_
        refine mt_goto dX4_isPlace_25 (tgt := 29) rfl ?_
        refine mt_ireturn dX4_isPlace_29 rfl rfl (Nat.le_of_ble_eq_true rfl) (Nat.le_of_ble_eq_true rfl) ?_
        exact absurd (show inR place (nI 0) (-1) = false from inR_m1) (by rw [q12]; decide)
    · refine mp_isub dX4_isPlace_17 (v := nI (((S.1 r).length) - 1)) (pk_sub (by omega)) ?_
      refine mt_callS (N := mX4_isIn) (Rc := rX4_isIn) (As := [.int place, .int (nI 0), .int (nI (((S.1 r).length) - 1))]) (st := []) dX4_isPlace_18 (kX4_isIn hl) sX4_isIn mw_1086 rfl (Nat.le_of_ble_eq_true rfl) ⟨⟨Nat.le_of_ble_eq_true rfl, Nat.le_of_ble_eq_true rfl⟩, Nat.le_of_ble_eq_true rfl, Nat.le_of_ble_eq_true rfl⟩ (fun v13 h14 n15 c16 => ?_) (fun _ _ _ hx => hx.elim)
      obtain ⟨c16a, c16b, c16c⟩ := c16
      rw [c16a, c16b, c16c]
      show mT _ _ _ _ 21 [.ref 27, .int (nI r), .int place] [.int (mb (inR place (nI 0) (nI (((S.1 r).length) - 1))))] _ _ _ _
      refine mt_if_eq dX4_isPlace_21 (tgt := 28) rfl (fun q17 => ?_) (fun q17 => ?_)
      · have q17 : (inR place (nI 0) (nI (((S.1 r).length) - 1))) = false := mb_0.mp q17
        refine mt_iconst dX4_isPlace_28 (v := nI 0) rfl ?_
        refine mt_ireturn dX4_isPlace_29 rfl rfl (Nat.le_of_ble_eq_true rfl) (Nat.le_of_ble_eq_true rfl) ?_
        exact ⟨congrArg (fun b => some (Value.int (mb b))) (show false = (inN (S.1 r).length place).isSome from by rw [← q17, inR_in (by omega), show (S.1 r).length - 1 + 1 = (S.1 r).length by omega]), rfl, rfl⟩
      · have q17 : (inR place (nI 0) (nI (((S.1 r).length) - 1))) = true := mb_1.mp q17
        refine mt_iconst dX4_isPlace_24 (v := nI 1) rfl ?_
        refine mt_goto dX4_isPlace_25 (tgt := 29) rfl ?_
        refine mt_ireturn dX4_isPlace_29 rfl rfl (Nat.le_of_ble_eq_true rfl) (Nat.le_of_ble_eq_true rfl) ?_
        exact ⟨congrArg (fun b => some (Value.int (mb b))) (show true = (inN (S.1 r).length place).isSome from by rw [← q17, inR_in (by omega), show (S.1 r).length - 1 + 1 = (S.1 r).length by omega]), rfl, rfl⟩
set_option maxRecDepth 100000 in
set_option maxHeartbeats 2000000 in
theorem kX4_isPlace_f {l : Launch} (hl : l.stackTraces = false) {h : mH} {n : Nat} {row place : Int32} (hq : inN 4 row = none) : mC l mX4_isPlace rX4_isPlace [.ref 27, .int row, .int place] h n (mRi (mb false) h n) (mNX) := by
  refine mm_enter hl (by decide +kernel) rfl rfl rfl (Nat.le_of_ble_eq_true rfl) ?_
  show mT _ _ _ _ 0 [.ref 27, .int row, .int place] [] _ _ 0 0
  refine mt_iload_n dX4_isPlace_0 rfl ?_
  refine mt_callS (N := mX4_isRow) (Rc := rX4_isRow) (As := [.int row]) (st := []) dX4_isPlace_1 (kX4_isRow hl) sX4_isRow mw_1083 rfl (Nat.le_of_ble_eq_true rfl) ⟨⟨Nat.le_of_ble_eq_true rfl, Nat.le_of_ble_eq_true rfl⟩, Nat.le_of_ble_eq_true rfl, Nat.le_of_ble_eq_true rfl⟩ (fun v1 h2 n3 c4 => ?_) (fun _ _ _ hx => hx.elim)
  obtain ⟨c4a, c4b, c4c⟩ := c4
  rw [hq] at c4a
  rw [c4a, c4b, c4c]
  show mT _ _ _ _ 4 [.ref 27, .int row, .int place] [.int (nI 0)] _ _ _ _
  refine mt_if_eq dX4_isPlace_4 (tgt := 28) rfl (fun q5 => ?_) (fun q5 => ?_)
  · have q5 := (mI_eq0 (by omega)).mp q5
    refine mt_iconst dX4_isPlace_28 (v := nI 0) rfl ?_
    refine mt_ireturn dX4_isPlace_29 rfl rfl (Nat.le_of_ble_eq_true rfl) (Nat.le_of_ble_eq_true rfl) ?_
    exact ⟨rfl, rfl, rfl⟩
  · have q5 := (not_congr (mI_eq0 (by omega))).mp q5
    exact absurd q5 (by decide)

/-! ===== the reference: what is asked ===== -/
abbrev rX4_many : Room := { frames := 2, cells := 0, slots := 0, locals := 42 }
set_option maxRecDepth 100000 in
set_option maxHeartbeats 2000000 in
theorem kX4_many {l : Launch} (hl : l.stackTraces = false) {h : mH} {n : Nat} {S : cS} {th : Int32} {row : Int32} (C : mAt h n S th) : mC l mX4_many rX4_many [.ref 27, .int row] h n (mOkq (sp_many S row) (.int (nI 0)) h n) (mNX) := by
  obtain ⟨C0, h39, kx, sx, HR⟩ := id C
  obtain ⟨⟨gk_1, G28_1, GK_1⟩, ⟨gs_1, G33_1, GS_1⟩, AK_1, AS_1, NE_1, NQ_1, LE_1⟩ := id HR
  refine mm_enter hl (by decide +kernel) rfl rfl rfl (Nat.le_of_ble_eq_true rfl) ?_
  show mT _ _ _ _ 0 [.ref 27, .int row] [] _ _ 0 0
  rcases hq2 : inN 4 row with _ | r3
  · refine mt_aload_n dX4_many_0 rfl rfl ?_
    refine mt_iload_n dX4_many_1 rfl ?_
    refine mt_callS (N := mX4_isRow) (Rc := rX4_isRow) (As := [.int row]) (st := [.ref 27]) dX4_many_2 (kX4_isRow hl) sX4_isRow mw_1083 rfl (Nat.le_of_ble_eq_true rfl) ⟨⟨Nat.le_of_ble_eq_true rfl, Nat.le_of_ble_eq_true rfl⟩, Nat.le_of_ble_eq_true rfl, Nat.le_of_ble_eq_true rfl⟩ (fun v4 h5 n6 c7 => ?_) (fun _ _ _ hx => hx.elim)
    obtain ⟨c7a, c7b, c7c⟩ := c7
    rw [show (inN 4 row).isSome = false from by rw [hq2]; rfl] at c7a
    rw [c7a, c7b, c7c]
    show mT _ _ _ _ 5 [.ref 27, .int row] [.int (nI 0), .ref 27] _ _ _ _
    refine mt_iconst dX4_many_5 (v := nI 1) rfl ?_
    refine mt_callV (N := mX4_isLet) (Rc := rX4_isLet) (As := [.int (nI 0), .int (nI 1)]) (st := []) dX4_many_6 (kX4_isLet (t := false) (f := true) hl C0) sX4_isLet mw_1092 mKX4 rfl C0 rfl (Nat.le_of_ble_eq_true rfl) ⟨⟨Nat.le_of_ble_eq_true rfl, Nat.le_of_ble_eq_true rfl⟩, Nat.le_of_ble_eq_true rfl, Nat.le_of_ble_eq_true rfl⟩ (fun v8 h9 n10 c11 => ?_) (fun _ _ _ hx => hx.elim)
    obtain ⟨c11a, c11b, c11c, c11d⟩ := c11
    rw [c11a, c11b]
    show mT _ _ _ _ 9 [.ref 27, .int row] [.int (nI 0)] _ _ _ _
    refine mt_if_eq dX4_many_9 (tgt := 22) rfl (fun q12 => ?_) (fun q12 => ?_)
    · have q12 := (mI_eq0 (by omega)).mp q12
      refine mt_iconst dX4_many_22 (v := nI 0) rfl ?_
      refine mt_ireturn dX4_many_23 rfl rfl (Nat.le_of_ble_eq_true rfl) (Nat.le_of_ble_eq_true rfl) ?_
      exact mOkq.no (k := 1) (S' := S) (by simp only [sp_many, dAt_n (k := 4) (x := row) hq2, if_pos q12]) (by decide) rfl (by omega) c11c (by omega) (mRows.fr (n' := n) HR (by omega) (fun j j1 j2 j3 => c11d (j) (by omega)) (by omega)) (fun j hj => c11d j (by omega))
    · have q12 := (not_congr (mI_eq0 (by omega))).mp q12
      exact absurd q12 (by decide)
  · obtain ⟨hr3, rfl⟩ := inN_of hq2 (by first | decide | omega)
    obtain ⟨⟨ka_13, kb_13, kc_13, kd_13⟩, kf_13, ke_13, kg_13⟩ := AK_1 r3 hr3
    obtain ⟨⟨sa_13, sb_13, sc_13, sd_13⟩, sf_13, se_13, sg_13⟩ := AS_1 r3 hr3
    have kn_13 := NE_1 r3 r3 hr3 hr3
    have kl_13 := LE_1 r3 hr3
    have km_13 := rroom_le (r := r3)
    refine mt_aload_n dX4_many_0 rfl rfl ?_
    refine mt_iload_n dX4_many_1 rfl ?_
    refine mt_callS (N := mX4_isRow) (Rc := rX4_isRow) (As := [.int (nI r3)]) (st := [.ref 27]) dX4_many_2 (kX4_isRow hl) sX4_isRow mw_1083 rfl (Nat.le_of_ble_eq_true rfl) ⟨⟨Nat.le_of_ble_eq_true rfl, Nat.le_of_ble_eq_true rfl⟩, Nat.le_of_ble_eq_true rfl, Nat.le_of_ble_eq_true rfl⟩ (fun v14 h15 n16 c17 => ?_) (fun _ _ _ hx => hx.elim)
    obtain ⟨c17a, c17b, c17c⟩ := c17
    rw [show (inN 4 (nI r3)).isSome = true from by rw [inN_some hr3 (by decide)]; rfl] at c17a
    rw [c17a, c17b, c17c]
    show mT _ _ _ _ 5 [.ref 27, .int (nI r3)] [.int (nI 1), .ref 27] _ _ _ _
    refine mt_iconst dX4_many_5 (v := nI 1) rfl ?_
    refine mt_callV (N := mX4_isLet) (Rc := rX4_isLet) (As := [.int (nI 1), .int (nI 1)]) (st := []) dX4_many_6 (kX4_isLet (t := true) (f := true) hl C0) sX4_isLet mw_1092 mKX4 rfl C0 rfl (Nat.le_of_ble_eq_true rfl) ⟨⟨Nat.le_of_ble_eq_true rfl, Nat.le_of_ble_eq_true rfl⟩, Nat.le_of_ble_eq_true rfl, Nat.le_of_ble_eq_true rfl⟩ (fun v18 h19 n20 c21 => ?_) (fun _ _ _ hx => hx.elim)
    obtain ⟨c21a, c21b, c21c, c21d⟩ := c21
    rw [c21a, c21b]
    show mT _ _ _ _ 9 [.ref 27, .int (nI r3)] [.int (nI 1)] _ _ _ _
    refine mt_if_eq dX4_many_9 (tgt := 22) rfl (fun q22 => ?_) (fun q22 => ?_)
    · have q22 := (mI_eq0 (by omega)).mp q22
      exact absurd q22 (by decide)
    · have q22 := (not_congr (mI_eq0 (by omega))).mp q22
      refine mt_aload_n dX4_many_12 rfl rfl ?_
      refine mt_getfield mKX4 (i := 0) (by decide) mw_1053 dX4_many_13 c21c rfl ?_
      refine mt_iload_n dX4_many_16 rfl ?_
      refine mp_aaload dX4_many_17 ((c21d (28) (by omega)).trans G28_1) (fun _ => rfl) rfl rfl (by omega) (by omega) (v := .ref (kx r3)) (by rw [GK_1 _ (by omega)]; rfl) ?_
      refine mt_alen dX4_many_18 ((c21d (kx r3) (by omega)).trans ke_13) (by decide) ?_
      refine mt_goto dX4_many_19 (tgt := 23) rfl ?_
      refine mt_ireturn dX4_many_23 rfl rfl (Nat.le_of_ble_eq_true rfl) (Nat.le_of_ble_eq_true rfl) ?_
      exact mOkq.of (x := .int (nI ((S.1 r3).length))) (S' := ((S).1, S.2.1, S.2.2.1, S.2.2.2.1, S.2.2.2.2)) (by simp only [sp_many, dAt_s (k := 4) hr3 (by first | decide | omega), if_neg q22] <;> first | rfl | simp_all) rfl (by omega) c21c (by omega) (mRows.fr (n' := n) HR (by omega) (fun j j1 j2 j3 => c21d (j) (by omega)) (by omega)) (fun j hj => c21d j (by omega))
abbrev rX4_key : Room := { frames := 3, cells := 0, slots := 0, locals := 64 }
set_option maxRecDepth 100000 in
set_option maxHeartbeats 2000000 in
theorem kX4_key {l : Launch} (hl : l.stackTraces = false) {h : mH} {n : Nat} {S : cS} {th : Int32} {row : Int32} {place : Int32} (C : mAt h n S th) : mC l mX4_key rX4_key [.ref 27, .int row, .int place] h n (mOkq (sp_key S row place) (.int (nI 0)) h n) (mNX) := by
  obtain ⟨C0, h39, kx, sx, HR⟩ := id C
  obtain ⟨⟨gk_1, G28_1, GK_1⟩, ⟨gs_1, G33_1, GS_1⟩, AK_1, AS_1, NE_1, NQ_1, LE_1⟩ := id HR
  refine mm_enter hl (by decide +kernel) rfl rfl rfl (Nat.le_of_ble_eq_true rfl) ?_
  show mT _ _ _ _ 0 [.ref 27, .int row, .int place] [] _ _ 0 0
  rcases hq2 : inN 4 row with _ | r3
  · refine mt_aload_n dX4_key_0 rfl rfl ?_
    refine mt_aload_n dX4_key_1 rfl rfl ?_
    refine mt_iload_n dX4_key_2 rfl ?_
    refine mt_iload_n dX4_key_3 rfl ?_
    refine mt_callV (N := mX4_isPlace) (Rc := rX4_isPlace) (As := [.int row, .int place]) (st := [.ref 27]) dX4_key_4 (kX4_isPlace_f hl hq2) sX4_isPlace mw_1126 mKX4 rfl C0 rfl (Nat.le_of_ble_eq_true rfl) ⟨⟨Nat.le_of_ble_eq_true rfl, Nat.le_of_ble_eq_true rfl⟩, Nat.le_of_ble_eq_true rfl, Nat.le_of_ble_eq_true rfl⟩ (fun v4 h5 n6 c7 => ?_) (fun _ _ _ hx => hx.elim)
    obtain ⟨c7a, c7b, c7c⟩ := c7
    rw [c7a, c7b, c7c]
    show mT _ _ _ _ 7 [.ref 27, .int row, .int place] [.int (nI 0), .ref 27] _ _ _ _
    refine mt_iconst dX4_key_7 (v := nI 1) rfl ?_
    refine mt_callV (N := mX4_isLet) (Rc := rX4_isLet) (As := [.int (nI 0), .int (nI 1)]) (st := []) dX4_key_8 (kX4_isLet (t := false) (f := true) hl C0) sX4_isLet mw_1092 mKX4 rfl C0 rfl (Nat.le_of_ble_eq_true rfl) ⟨⟨Nat.le_of_ble_eq_true rfl, Nat.le_of_ble_eq_true rfl⟩, Nat.le_of_ble_eq_true rfl, Nat.le_of_ble_eq_true rfl⟩ (fun v8 h9 n10 c11 => ?_) (fun _ _ _ hx => hx.elim)
    obtain ⟨c11a, c11b, c11c, c11d⟩ := c11
    rw [c11a, c11b]
    show mT _ _ _ _ 11 [.ref 27, .int row, .int place] [.int (nI 0)] _ _ _ _
    refine mt_if_eq dX4_key_11 (tgt := 25) rfl (fun q12 => ?_) (fun q12 => ?_)
    · have q12 := (mI_eq0 (by omega)).mp q12
      refine mt_iconst dX4_key_25 (v := nI 0) rfl ?_
      refine mt_ireturn dX4_key_26 rfl rfl (Nat.le_of_ble_eq_true rfl) (Nat.le_of_ble_eq_true rfl) ?_
      exact mOkq.no (k := 1) (S' := S) (by simp only [sp_key, dAt_n (k := 4) (x := row) hq2, if_pos q12]) (by decide) rfl (by omega) c11c (by omega) (mRows.fr (n' := n) HR (by omega) (fun j j1 j2 j3 => c11d (j) (by omega)) (by omega)) (fun j hj => c11d j (by omega))
    · have q12 := (not_congr (mI_eq0 (by omega))).mp q12
      exact absurd q12 (by decide)
  · obtain ⟨hr3, rfl⟩ := inN_of hq2 (by first | decide | omega)
    obtain ⟨⟨ka_13, kb_13, kc_13, kd_13⟩, kf_13, ke_13, kg_13⟩ := AK_1 r3 hr3
    obtain ⟨⟨sa_13, sb_13, sc_13, sd_13⟩, sf_13, se_13, sg_13⟩ := AS_1 r3 hr3
    have kn_13 := NE_1 r3 r3 hr3 hr3
    have kl_13 := LE_1 r3 hr3
    have km_13 := rroom_le (r := r3)
    rcases hq14 : inN (S.1 r3).length place with _ | p15
    · refine mt_aload_n dX4_key_0 rfl rfl ?_
      refine mt_aload_n dX4_key_1 rfl rfl ?_
      refine mt_iload_n dX4_key_2 rfl ?_
      refine mt_iload_n dX4_key_3 rfl ?_
      refine mt_callV (N := mX4_isPlace) (Rc := rX4_isPlace) (As := [.int (nI r3), .int place]) (st := [.ref 27]) dX4_key_4 (kX4_isPlace hl C0 HR (by omega) (by omega)) sX4_isPlace mw_1126 mKX4 rfl C0 rfl (Nat.le_of_ble_eq_true rfl) ⟨⟨Nat.le_of_ble_eq_true rfl, Nat.le_of_ble_eq_true rfl⟩, Nat.le_of_ble_eq_true rfl, Nat.le_of_ble_eq_true rfl⟩ (fun v16 h17 n18 c19 => ?_) (fun _ _ _ hx => hx.elim)
      obtain ⟨c19a, c19b, c19c⟩ := c19
      rw [show (inN (S.1 r3).length place).isSome = false from by rw [hq14]; rfl] at c19a
      rw [c19a, c19b, c19c]
      show mT _ _ _ _ 7 [.ref 27, .int (nI r3), .int place] [.int (nI 0), .ref 27] _ _ _ _
      refine mt_iconst dX4_key_7 (v := nI 1) rfl ?_
      refine mt_callV (N := mX4_isLet) (Rc := rX4_isLet) (As := [.int (nI 0), .int (nI 1)]) (st := []) dX4_key_8 (kX4_isLet (t := false) (f := true) hl C0) sX4_isLet mw_1092 mKX4 rfl C0 rfl (Nat.le_of_ble_eq_true rfl) ⟨⟨Nat.le_of_ble_eq_true rfl, Nat.le_of_ble_eq_true rfl⟩, Nat.le_of_ble_eq_true rfl, Nat.le_of_ble_eq_true rfl⟩ (fun v20 h21 n22 c23 => ?_) (fun _ _ _ hx => hx.elim)
      obtain ⟨c23a, c23b, c23c, c23d⟩ := c23
      rw [c23a, c23b]
      show mT _ _ _ _ 11 [.ref 27, .int (nI r3), .int place] [.int (nI 0)] _ _ _ _
      refine mt_if_eq dX4_key_11 (tgt := 25) rfl (fun q24 => ?_) (fun q24 => ?_)
      · have q24 := (mI_eq0 (by omega)).mp q24
        refine mt_iconst dX4_key_25 (v := nI 0) rfl ?_
        refine mt_ireturn dX4_key_26 rfl rfl (Nat.le_of_ble_eq_true rfl) (Nat.le_of_ble_eq_true rfl) ?_
        exact mOkq.no (k := 1) (S' := S) (by simp only [sp_key, dAt_s (k := 4) hr3 (by first | decide | omega), dAt_n (k := (S.1 r3).length) (x := place) hq14, if_pos q24]) (by decide) rfl (by omega) c23c (by omega) (mRows.fr (n' := n) HR (by omega) (fun j j1 j2 j3 => c23d (j) (by omega)) (by omega)) (fun j hj => c23d j (by omega))
      · have q24 := (not_congr (mI_eq0 (by omega))).mp q24
        exact absurd q24 (by decide)
    · obtain ⟨hp15, rfl⟩ := inN_of hq14 (by first | decide | omega)
      refine mt_aload_n dX4_key_0 rfl rfl ?_
      refine mt_aload_n dX4_key_1 rfl rfl ?_
      refine mt_iload_n dX4_key_2 rfl ?_
      refine mt_iload_n dX4_key_3 rfl ?_
      refine mt_callV (N := mX4_isPlace) (Rc := rX4_isPlace) (As := [.int (nI r3), .int (nI p15)]) (st := [.ref 27]) dX4_key_4 (kX4_isPlace hl C0 HR (by omega) (by omega)) sX4_isPlace mw_1126 mKX4 rfl C0 rfl (Nat.le_of_ble_eq_true rfl) ⟨⟨Nat.le_of_ble_eq_true rfl, Nat.le_of_ble_eq_true rfl⟩, Nat.le_of_ble_eq_true rfl, Nat.le_of_ble_eq_true rfl⟩ (fun v25 h26 n27 c28 => ?_) (fun _ _ _ hx => hx.elim)
      obtain ⟨c28a, c28b, c28c⟩ := c28
      rw [show (inN (S.1 r3).length (nI p15)).isSome = true from by rw [inN_some hp15 (by omega)]; rfl] at c28a
      rw [c28a, c28b, c28c]
      show mT _ _ _ _ 7 [.ref 27, .int (nI r3), .int (nI p15)] [.int (nI 1), .ref 27] _ _ _ _
      refine mt_iconst dX4_key_7 (v := nI 1) rfl ?_
      refine mt_callV (N := mX4_isLet) (Rc := rX4_isLet) (As := [.int (nI 1), .int (nI 1)]) (st := []) dX4_key_8 (kX4_isLet (t := true) (f := true) hl C0) sX4_isLet mw_1092 mKX4 rfl C0 rfl (Nat.le_of_ble_eq_true rfl) ⟨⟨Nat.le_of_ble_eq_true rfl, Nat.le_of_ble_eq_true rfl⟩, Nat.le_of_ble_eq_true rfl, Nat.le_of_ble_eq_true rfl⟩ (fun v29 h30 n31 c32 => ?_) (fun _ _ _ hx => hx.elim)
      obtain ⟨c32a, c32b, c32c, c32d⟩ := c32
      rw [c32a, c32b]
      show mT _ _ _ _ 11 [.ref 27, .int (nI r3), .int (nI p15)] [.int (nI 1)] _ _ _ _
      refine mt_if_eq dX4_key_11 (tgt := 25) rfl (fun q33 => ?_) (fun q33 => ?_)
      · have q33 := (mI_eq0 (by omega)).mp q33
        exact absurd q33 (by decide)
      · have q33 := (not_congr (mI_eq0 (by omega))).mp q33
        refine mt_aload_n dX4_key_14 rfl rfl ?_
        refine mt_getfield mKX4 (i := 0) (by decide) mw_1053 dX4_key_15 c32c rfl ?_
        refine mt_iload_n dX4_key_18 rfl ?_
        refine mp_aaload dX4_key_19 ((c32d (28) (by omega)).trans G28_1) (fun _ => rfl) rfl rfl (by omega) (by omega) (v := .ref (kx r3)) (by rw [GK_1 _ (by omega)]; rfl) ?_
        refine mt_iload_n dX4_key_20 rfl ?_
        refine mp_iaload dX4_key_21 ((c32d (kx r3) (by omega)).trans ke_13) rfl (by omega) (by omega) (v := xk (S.1 r3) p15) (kg_13 _ (by omega)) ?_
        refine mt_goto dX4_key_22 (tgt := 26) rfl ?_
        refine mt_ireturn dX4_key_26 rfl rfl (Nat.le_of_ble_eq_true rfl) (Nat.le_of_ble_eq_true rfl) ?_
        exact mOkq.of (x := .int (xk (S.1 r3) p15)) (S' := ((S).1, S.2.1, S.2.2.1, S.2.2.2.1, S.2.2.2.2)) (by simp only [sp_key, dAt_s (k := 4) hr3 (by first | decide | omega), dAt_s (k := (S.1 r3).length) hp15 (by first | decide | omega), if_neg q33] <;> first | rfl | simp_all) rfl (by omega) c32c (by omega) (mRows.fr (n' := n) HR (by omega) (fun j j1 j2 j3 => c32d (j) (by omega)) (by omega)) (fun j hj => c32d j (by omega))
abbrev rX4_stamp : Room := { frames := 3, cells := 0, slots := 0, locals := 64 }
set_option maxRecDepth 100000 in
set_option maxHeartbeats 2000000 in
theorem kX4_stamp {l : Launch} (hl : l.stackTraces = false) {h : mH} {n : Nat} {S : cS} {th : Int32} {row : Int32} {place : Int32} (C : mAt h n S th) : mC l mX4_stamp rX4_stamp [.ref 27, .int row, .int place] h n (mOkq (sp_stamp S row place) (.int (nI 0)) h n) (mNX) := by
  obtain ⟨C0, h39, kx, sx, HR⟩ := id C
  obtain ⟨⟨gk_1, G28_1, GK_1⟩, ⟨gs_1, G33_1, GS_1⟩, AK_1, AS_1, NE_1, NQ_1, LE_1⟩ := id HR
  refine mm_enter hl (by decide +kernel) rfl rfl rfl (Nat.le_of_ble_eq_true rfl) ?_
  show mT _ _ _ _ 0 [.ref 27, .int row, .int place] [] _ _ 0 0
  rcases hq2 : inN 4 row with _ | r3
  · refine mt_aload_n dX4_stamp_0 rfl rfl ?_
    refine mt_aload_n dX4_stamp_1 rfl rfl ?_
    refine mt_iload_n dX4_stamp_2 rfl ?_
    refine mt_iload_n dX4_stamp_3 rfl ?_
    refine mt_callV (N := mX4_isPlace) (Rc := rX4_isPlace) (As := [.int row, .int place]) (st := [.ref 27]) dX4_stamp_4 (kX4_isPlace_f hl hq2) sX4_isPlace mw_1126 mKX4 rfl C0 rfl (Nat.le_of_ble_eq_true rfl) ⟨⟨Nat.le_of_ble_eq_true rfl, Nat.le_of_ble_eq_true rfl⟩, Nat.le_of_ble_eq_true rfl, Nat.le_of_ble_eq_true rfl⟩ (fun v4 h5 n6 c7 => ?_) (fun _ _ _ hx => hx.elim)
    obtain ⟨c7a, c7b, c7c⟩ := c7
    rw [c7a, c7b, c7c]
    show mT _ _ _ _ 7 [.ref 27, .int row, .int place] [.int (nI 0), .ref 27] _ _ _ _
    refine mt_iconst dX4_stamp_7 (v := nI 1) rfl ?_
    refine mt_callV (N := mX4_isLet) (Rc := rX4_isLet) (As := [.int (nI 0), .int (nI 1)]) (st := []) dX4_stamp_8 (kX4_isLet (t := false) (f := true) hl C0) sX4_isLet mw_1092 mKX4 rfl C0 rfl (Nat.le_of_ble_eq_true rfl) ⟨⟨Nat.le_of_ble_eq_true rfl, Nat.le_of_ble_eq_true rfl⟩, Nat.le_of_ble_eq_true rfl, Nat.le_of_ble_eq_true rfl⟩ (fun v8 h9 n10 c11 => ?_) (fun _ _ _ hx => hx.elim)
    obtain ⟨c11a, c11b, c11c, c11d⟩ := c11
    rw [c11a, c11b]
    show mT _ _ _ _ 11 [.ref 27, .int row, .int place] [.int (nI 0)] _ _ _ _
    refine mt_if_eq dX4_stamp_11 (tgt := 25) rfl (fun q12 => ?_) (fun q12 => ?_)
    · have q12 := (mI_eq0 (by omega)).mp q12
      refine mt_iconst dX4_stamp_25 (v := nI 0) rfl ?_
      refine mt_ireturn dX4_stamp_26 rfl rfl (Nat.le_of_ble_eq_true rfl) (Nat.le_of_ble_eq_true rfl) ?_
      exact mOkq.no (k := 1) (S' := S) (by simp only [sp_stamp, dAt_n (k := 4) (x := row) hq2, if_pos q12]) (by decide) rfl (by omega) c11c (by omega) (mRows.fr (n' := n) HR (by omega) (fun j j1 j2 j3 => c11d (j) (by omega)) (by omega)) (fun j hj => c11d j (by omega))
    · have q12 := (not_congr (mI_eq0 (by omega))).mp q12
      exact absurd q12 (by decide)
  · obtain ⟨hr3, rfl⟩ := inN_of hq2 (by first | decide | omega)
    obtain ⟨⟨ka_13, kb_13, kc_13, kd_13⟩, kf_13, ke_13, kg_13⟩ := AK_1 r3 hr3
    obtain ⟨⟨sa_13, sb_13, sc_13, sd_13⟩, sf_13, se_13, sg_13⟩ := AS_1 r3 hr3
    have kn_13 := NE_1 r3 r3 hr3 hr3
    have kl_13 := LE_1 r3 hr3
    have km_13 := rroom_le (r := r3)
    rcases hq14 : inN (S.1 r3).length place with _ | p15
    · refine mt_aload_n dX4_stamp_0 rfl rfl ?_
      refine mt_aload_n dX4_stamp_1 rfl rfl ?_
      refine mt_iload_n dX4_stamp_2 rfl ?_
      refine mt_iload_n dX4_stamp_3 rfl ?_
      refine mt_callV (N := mX4_isPlace) (Rc := rX4_isPlace) (As := [.int (nI r3), .int place]) (st := [.ref 27]) dX4_stamp_4 (kX4_isPlace hl C0 HR (by omega) (by omega)) sX4_isPlace mw_1126 mKX4 rfl C0 rfl (Nat.le_of_ble_eq_true rfl) ⟨⟨Nat.le_of_ble_eq_true rfl, Nat.le_of_ble_eq_true rfl⟩, Nat.le_of_ble_eq_true rfl, Nat.le_of_ble_eq_true rfl⟩ (fun v16 h17 n18 c19 => ?_) (fun _ _ _ hx => hx.elim)
      obtain ⟨c19a, c19b, c19c⟩ := c19
      rw [show (inN (S.1 r3).length place).isSome = false from by rw [hq14]; rfl] at c19a
      rw [c19a, c19b, c19c]
      show mT _ _ _ _ 7 [.ref 27, .int (nI r3), .int place] [.int (nI 0), .ref 27] _ _ _ _
      refine mt_iconst dX4_stamp_7 (v := nI 1) rfl ?_
      refine mt_callV (N := mX4_isLet) (Rc := rX4_isLet) (As := [.int (nI 0), .int (nI 1)]) (st := []) dX4_stamp_8 (kX4_isLet (t := false) (f := true) hl C0) sX4_isLet mw_1092 mKX4 rfl C0 rfl (Nat.le_of_ble_eq_true rfl) ⟨⟨Nat.le_of_ble_eq_true rfl, Nat.le_of_ble_eq_true rfl⟩, Nat.le_of_ble_eq_true rfl, Nat.le_of_ble_eq_true rfl⟩ (fun v20 h21 n22 c23 => ?_) (fun _ _ _ hx => hx.elim)
      obtain ⟨c23a, c23b, c23c, c23d⟩ := c23
      rw [c23a, c23b]
      show mT _ _ _ _ 11 [.ref 27, .int (nI r3), .int place] [.int (nI 0)] _ _ _ _
      refine mt_if_eq dX4_stamp_11 (tgt := 25) rfl (fun q24 => ?_) (fun q24 => ?_)
      · have q24 := (mI_eq0 (by omega)).mp q24
        refine mt_iconst dX4_stamp_25 (v := nI 0) rfl ?_
        refine mt_ireturn dX4_stamp_26 rfl rfl (Nat.le_of_ble_eq_true rfl) (Nat.le_of_ble_eq_true rfl) ?_
        exact mOkq.no (k := 1) (S' := S) (by simp only [sp_stamp, dAt_s (k := 4) hr3 (by first | decide | omega), dAt_n (k := (S.1 r3).length) (x := place) hq14, if_pos q24]) (by decide) rfl (by omega) c23c (by omega) (mRows.fr (n' := n) HR (by omega) (fun j j1 j2 j3 => c23d (j) (by omega)) (by omega)) (fun j hj => c23d j (by omega))
      · have q24 := (not_congr (mI_eq0 (by omega))).mp q24
        exact absurd q24 (by decide)
    · obtain ⟨hp15, rfl⟩ := inN_of hq14 (by first | decide | omega)
      refine mt_aload_n dX4_stamp_0 rfl rfl ?_
      refine mt_aload_n dX4_stamp_1 rfl rfl ?_
      refine mt_iload_n dX4_stamp_2 rfl ?_
      refine mt_iload_n dX4_stamp_3 rfl ?_
      refine mt_callV (N := mX4_isPlace) (Rc := rX4_isPlace) (As := [.int (nI r3), .int (nI p15)]) (st := [.ref 27]) dX4_stamp_4 (kX4_isPlace hl C0 HR (by omega) (by omega)) sX4_isPlace mw_1126 mKX4 rfl C0 rfl (Nat.le_of_ble_eq_true rfl) ⟨⟨Nat.le_of_ble_eq_true rfl, Nat.le_of_ble_eq_true rfl⟩, Nat.le_of_ble_eq_true rfl, Nat.le_of_ble_eq_true rfl⟩ (fun v25 h26 n27 c28 => ?_) (fun _ _ _ hx => hx.elim)
      obtain ⟨c28a, c28b, c28c⟩ := c28
      rw [show (inN (S.1 r3).length (nI p15)).isSome = true from by rw [inN_some hp15 (by omega)]; rfl] at c28a
      rw [c28a, c28b, c28c]
      show mT _ _ _ _ 7 [.ref 27, .int (nI r3), .int (nI p15)] [.int (nI 1), .ref 27] _ _ _ _
      refine mt_iconst dX4_stamp_7 (v := nI 1) rfl ?_
      refine mt_callV (N := mX4_isLet) (Rc := rX4_isLet) (As := [.int (nI 1), .int (nI 1)]) (st := []) dX4_stamp_8 (kX4_isLet (t := true) (f := true) hl C0) sX4_isLet mw_1092 mKX4 rfl C0 rfl (Nat.le_of_ble_eq_true rfl) ⟨⟨Nat.le_of_ble_eq_true rfl, Nat.le_of_ble_eq_true rfl⟩, Nat.le_of_ble_eq_true rfl, Nat.le_of_ble_eq_true rfl⟩ (fun v29 h30 n31 c32 => ?_) (fun _ _ _ hx => hx.elim)
      obtain ⟨c32a, c32b, c32c, c32d⟩ := c32
      rw [c32a, c32b]
      show mT _ _ _ _ 11 [.ref 27, .int (nI r3), .int (nI p15)] [.int (nI 1)] _ _ _ _
      refine mt_if_eq dX4_stamp_11 (tgt := 25) rfl (fun q33 => ?_) (fun q33 => ?_)
      · have q33 := (mI_eq0 (by omega)).mp q33
        exact absurd q33 (by decide)
      · have q33 := (not_congr (mI_eq0 (by omega))).mp q33
        refine mt_aload_n dX4_stamp_14 rfl rfl ?_
        refine mt_getfield mKX4 (i := 1) (by decide) mw_1054 dX4_stamp_15 c32c rfl ?_
        refine mt_iload_n dX4_stamp_18 rfl ?_
        refine mp_aaload dX4_stamp_19 ((c32d (33) (by omega)).trans G33_1) (fun _ => rfl) rfl rfl (by omega) (by omega) (v := .ref (sx r3)) (by rw [GS_1 _ (by omega)]; rfl) ?_
        refine mt_iload_n dX4_stamp_20 rfl ?_
        refine mp_iaload dX4_stamp_21 ((c32d (sx r3) (by omega)).trans se_13) rfl (by omega) (by omega) (v := xt (S.1 r3) p15) (sg_13 _ (by omega)) ?_
        refine mt_goto dX4_stamp_22 (tgt := 26) rfl ?_
        refine mt_ireturn dX4_stamp_26 rfl rfl (Nat.le_of_ble_eq_true rfl) (Nat.le_of_ble_eq_true rfl) ?_
        exact mOkq.of (x := .int (xt (S.1 r3) p15)) (S' := ((S).1, S.2.1, S.2.2.1, S.2.2.2.1, S.2.2.2.2)) (by simp only [sp_stamp, dAt_s (k := 4) hr3 (by first | decide | omega), dAt_s (k := (S.1 r3).length) hp15 (by first | decide | omega), if_neg q33] <;> first | rfl | simp_all) rfl (by omega) c32c (by omega) (mRows.fr (n' := n) HR (by omega) (fun j j1 j2 j3 => c32d (j) (by omega)) (by omega)) (fun j hj => c32d j (by omega))
abbrev rX4_rank : Room := { frames := 3, cells := 0, slots := 0, locals := 64 }
set_option maxRecDepth 100000 in
set_option maxHeartbeats 2000000 in
theorem kX4_rank {l : Launch} (hl : l.stackTraces = false) {h : mH} {n : Nat} {S : cS} {th : Int32} {row : Int32} {place : Int32} (C : mAt h n S th) : mC l mX4_rank rX4_rank [.ref 27, .int row, .int place] h n (mOkq (sp_rank S row place) (.int (nI 0)) h n) (mNX) := by
  obtain ⟨C0, h39, kx, sx, HR⟩ := id C
  obtain ⟨⟨gk_1, G28_1, GK_1⟩, ⟨gs_1, G33_1, GS_1⟩, AK_1, AS_1, NE_1, NQ_1, LE_1⟩ := id HR
  refine mm_enter hl (by decide +kernel) rfl rfl rfl (Nat.le_of_ble_eq_true rfl) ?_
  show mT _ _ _ _ 0 [.ref 27, .int row, .int place] [] _ _ 0 0
  rcases hq2 : inN 4 row with _ | r3
  · refine mt_aload_n dX4_rank_0 rfl rfl ?_
    refine mt_aload_n dX4_rank_1 rfl rfl ?_
    refine mt_iload_n dX4_rank_2 rfl ?_
    refine mt_iload_n dX4_rank_3 rfl ?_
    refine mt_callV (N := mX4_isPlace) (Rc := rX4_isPlace) (As := [.int row, .int place]) (st := [.ref 27]) dX4_rank_4 (kX4_isPlace_f hl hq2) sX4_isPlace mw_1126 mKX4 rfl C0 rfl (Nat.le_of_ble_eq_true rfl) ⟨⟨Nat.le_of_ble_eq_true rfl, Nat.le_of_ble_eq_true rfl⟩, Nat.le_of_ble_eq_true rfl, Nat.le_of_ble_eq_true rfl⟩ (fun v4 h5 n6 c7 => ?_) (fun _ _ _ hx => hx.elim)
    obtain ⟨c7a, c7b, c7c⟩ := c7
    rw [c7a, c7b, c7c]
    show mT _ _ _ _ 7 [.ref 27, .int row, .int place] [.int (nI 0), .ref 27] _ _ _ _
    refine mt_iconst dX4_rank_7 (v := nI 1) rfl ?_
    refine mt_callV (N := mX4_isLet) (Rc := rX4_isLet) (As := [.int (nI 0), .int (nI 1)]) (st := []) dX4_rank_8 (kX4_isLet (t := false) (f := true) hl C0) sX4_isLet mw_1092 mKX4 rfl C0 rfl (Nat.le_of_ble_eq_true rfl) ⟨⟨Nat.le_of_ble_eq_true rfl, Nat.le_of_ble_eq_true rfl⟩, Nat.le_of_ble_eq_true rfl, Nat.le_of_ble_eq_true rfl⟩ (fun v8 h9 n10 c11 => ?_) (fun _ _ _ hx => hx.elim)
    obtain ⟨c11a, c11b, c11c, c11d⟩ := c11
    rw [c11a, c11b]
    show mT _ _ _ _ 11 [.ref 27, .int row, .int place] [.int (nI 0)] _ _ _ _
    refine mt_if_eq dX4_rank_11 (tgt := 23) rfl (fun q12 => ?_) (fun q12 => ?_)
    · have q12 := (mI_eq0 (by omega)).mp q12
      refine mt_iconst dX4_rank_23 (v := nI 0) rfl ?_
      refine mt_ireturn dX4_rank_24 rfl rfl (Nat.le_of_ble_eq_true rfl) (Nat.le_of_ble_eq_true rfl) ?_
      exact mOkq.no (k := 1) (S' := S) (by simp only [sp_rank, dAt_n (k := 4) (x := row) hq2, if_pos q12]) (by decide) rfl (by omega) c11c (by omega) (mRows.fr (n' := n) HR (by omega) (fun j j1 j2 j3 => c11d (j) (by omega)) (by omega)) (fun j hj => c11d j (by omega))
    · have q12 := (not_congr (mI_eq0 (by omega))).mp q12
      exact absurd q12 (by decide)
  · obtain ⟨hr3, rfl⟩ := inN_of hq2 (by first | decide | omega)
    obtain ⟨⟨ka_13, kb_13, kc_13, kd_13⟩, kf_13, ke_13, kg_13⟩ := AK_1 r3 hr3
    obtain ⟨⟨sa_13, sb_13, sc_13, sd_13⟩, sf_13, se_13, sg_13⟩ := AS_1 r3 hr3
    have kn_13 := NE_1 r3 r3 hr3 hr3
    have kl_13 := LE_1 r3 hr3
    have km_13 := rroom_le (r := r3)
    rcases hq14 : inN (S.1 r3).length place with _ | p15
    · refine mt_aload_n dX4_rank_0 rfl rfl ?_
      refine mt_aload_n dX4_rank_1 rfl rfl ?_
      refine mt_iload_n dX4_rank_2 rfl ?_
      refine mt_iload_n dX4_rank_3 rfl ?_
      refine mt_callV (N := mX4_isPlace) (Rc := rX4_isPlace) (As := [.int (nI r3), .int place]) (st := [.ref 27]) dX4_rank_4 (kX4_isPlace hl C0 HR (by omega) (by omega)) sX4_isPlace mw_1126 mKX4 rfl C0 rfl (Nat.le_of_ble_eq_true rfl) ⟨⟨Nat.le_of_ble_eq_true rfl, Nat.le_of_ble_eq_true rfl⟩, Nat.le_of_ble_eq_true rfl, Nat.le_of_ble_eq_true rfl⟩ (fun v16 h17 n18 c19 => ?_) (fun _ _ _ hx => hx.elim)
      obtain ⟨c19a, c19b, c19c⟩ := c19
      rw [show (inN (S.1 r3).length place).isSome = false from by rw [hq14]; rfl] at c19a
      rw [c19a, c19b, c19c]
      show mT _ _ _ _ 7 [.ref 27, .int (nI r3), .int place] [.int (nI 0), .ref 27] _ _ _ _
      refine mt_iconst dX4_rank_7 (v := nI 1) rfl ?_
      refine mt_callV (N := mX4_isLet) (Rc := rX4_isLet) (As := [.int (nI 0), .int (nI 1)]) (st := []) dX4_rank_8 (kX4_isLet (t := false) (f := true) hl C0) sX4_isLet mw_1092 mKX4 rfl C0 rfl (Nat.le_of_ble_eq_true rfl) ⟨⟨Nat.le_of_ble_eq_true rfl, Nat.le_of_ble_eq_true rfl⟩, Nat.le_of_ble_eq_true rfl, Nat.le_of_ble_eq_true rfl⟩ (fun v20 h21 n22 c23 => ?_) (fun _ _ _ hx => hx.elim)
      obtain ⟨c23a, c23b, c23c, c23d⟩ := c23
      rw [c23a, c23b]
      show mT _ _ _ _ 11 [.ref 27, .int (nI r3), .int place] [.int (nI 0)] _ _ _ _
      refine mt_if_eq dX4_rank_11 (tgt := 23) rfl (fun q24 => ?_) (fun q24 => ?_)
      · have q24 := (mI_eq0 (by omega)).mp q24
        refine mt_iconst dX4_rank_23 (v := nI 0) rfl ?_
        refine mt_ireturn dX4_rank_24 rfl rfl (Nat.le_of_ble_eq_true rfl) (Nat.le_of_ble_eq_true rfl) ?_
        exact mOkq.no (k := 1) (S' := S) (by simp only [sp_rank, dAt_s (k := 4) hr3 (by first | decide | omega), dAt_n (k := (S.1 r3).length) (x := place) hq14, if_pos q24]) (by decide) rfl (by omega) c23c (by omega) (mRows.fr (n' := n) HR (by omega) (fun j j1 j2 j3 => c23d (j) (by omega)) (by omega)) (fun j hj => c23d j (by omega))
      · have q24 := (not_congr (mI_eq0 (by omega))).mp q24
        exact absurd q24 (by decide)
    · obtain ⟨hp15, rfl⟩ := inN_of hq14 (by first | decide | omega)
      refine mt_aload_n dX4_rank_0 rfl rfl ?_
      refine mt_aload_n dX4_rank_1 rfl rfl ?_
      refine mt_iload_n dX4_rank_2 rfl ?_
      refine mt_iload_n dX4_rank_3 rfl ?_
      refine mt_callV (N := mX4_isPlace) (Rc := rX4_isPlace) (As := [.int (nI r3), .int (nI p15)]) (st := [.ref 27]) dX4_rank_4 (kX4_isPlace hl C0 HR (by omega) (by omega)) sX4_isPlace mw_1126 mKX4 rfl C0 rfl (Nat.le_of_ble_eq_true rfl) ⟨⟨Nat.le_of_ble_eq_true rfl, Nat.le_of_ble_eq_true rfl⟩, Nat.le_of_ble_eq_true rfl, Nat.le_of_ble_eq_true rfl⟩ (fun v25 h26 n27 c28 => ?_) (fun _ _ _ hx => hx.elim)
      obtain ⟨c28a, c28b, c28c⟩ := c28
      rw [show (inN (S.1 r3).length (nI p15)).isSome = true from by rw [inN_some hp15 (by omega)]; rfl] at c28a
      rw [c28a, c28b, c28c]
      show mT _ _ _ _ 7 [.ref 27, .int (nI r3), .int (nI p15)] [.int (nI 1), .ref 27] _ _ _ _
      refine mt_iconst dX4_rank_7 (v := nI 1) rfl ?_
      refine mt_callV (N := mX4_isLet) (Rc := rX4_isLet) (As := [.int (nI 1), .int (nI 1)]) (st := []) dX4_rank_8 (kX4_isLet (t := true) (f := true) hl C0) sX4_isLet mw_1092 mKX4 rfl C0 rfl (Nat.le_of_ble_eq_true rfl) ⟨⟨Nat.le_of_ble_eq_true rfl, Nat.le_of_ble_eq_true rfl⟩, Nat.le_of_ble_eq_true rfl, Nat.le_of_ble_eq_true rfl⟩ (fun v29 h30 n31 c32 => ?_) (fun _ _ _ hx => hx.elim)
      obtain ⟨c32a, c32b, c32c, c32d⟩ := c32
      rw [c32a, c32b]
      show mT _ _ _ _ 11 [.ref 27, .int (nI r3), .int (nI p15)] [.int (nI 1)] _ _ _ _
      refine mt_if_eq dX4_rank_11 (tgt := 23) rfl (fun q33 => ?_) (fun q33 => ?_)
      · have q33 := (mI_eq0 (by omega)).mp q33
        exact absurd q33 (by decide)
      · have q33 := (not_congr (mI_eq0 (by omega))).mp q33
        refine mt_aload_n dX4_rank_14 rfl rfl ?_
        refine mt_iload_n dX4_rank_15 rfl ?_
        refine mt_iload_n dX4_rank_16 rfl ?_
        refine mt_callV (N := mX4_ranked) (Rc := rX4_ranked) (As := [.int (nI r3), .int (nI p15)]) (st := []) dX4_rank_17 (kX4_ranked hl c32c (mRows.fr (n' := n) HR (by omega) (fun j j1 j2 j3 => c32d (j) (by omega)) (by omega)) (by omega) (by omega)) sX4_ranked mw_1191 mKX4 rfl c32c rfl (Nat.le_of_ble_eq_true rfl) ⟨⟨Nat.le_of_ble_eq_true rfl, Nat.le_of_ble_eq_true rfl⟩, Nat.le_of_ble_eq_true rfl, Nat.le_of_ble_eq_true rfl⟩ (fun v34 h35 n36 c37 => ?_) (fun _ _ _ hx => hx.elim)
        obtain ⟨c37a, c37b, c37c⟩ := c37
        rw [c37a, c37b, c37c]
        show mT _ _ _ _ 20 [.ref 27, .int (nI r3), .int (nI p15)] [.int (nI (rankf (S.1 r3) p15))] _ _ _ _
        refine mt_goto dX4_rank_20 (tgt := 24) rfl ?_
        refine mt_ireturn dX4_rank_24 rfl rfl (Nat.le_of_ble_eq_true rfl) (Nat.le_of_ble_eq_true rfl) ?_
        exact mOkq.of (x := .int (nI (rankf (S.1 r3) p15))) (S' := ((S).1, S.2.1, S.2.2.1, S.2.2.2.1, S.2.2.2.2)) (by simp only [sp_rank, dAt_s (k := 4) hr3 (by first | decide | omega), dAt_s (k := (S.1 r3).length) hp15 (by first | decide | omega), if_neg q33] <;> first | rfl | simp_all) rfl (by omega) c32c (by omega) (mRows.fr (n' := n) HR (by omega) (fun j j1 j2 j3 => c32d (j) (by omega)) (by omega)) (fun j hj => c32d j (by omega))
abbrev rX4_runAt : Room := { frames := 3, cells := 0, slots := 0, locals := 64 }
set_option maxRecDepth 100000 in
set_option maxHeartbeats 2000000 in
theorem kX4_runAt {l : Launch} (hl : l.stackTraces = false) {h : mH} {n : Nat} {S : cS} {th : Int32} {row : Int32} {place : Int32} (C : mAt h n S th) : mC l mX4_runAt rX4_runAt [.ref 27, .int row, .int place] h n (mOkq (sp_runAt S row place) (.int (nI 0)) h n) (mNX) := by
  obtain ⟨C0, h39, kx, sx, HR⟩ := id C
  obtain ⟨⟨gk_1, G28_1, GK_1⟩, ⟨gs_1, G33_1, GS_1⟩, AK_1, AS_1, NE_1, NQ_1, LE_1⟩ := id HR
  refine mm_enter hl (by decide +kernel) rfl rfl rfl (Nat.le_of_ble_eq_true rfl) ?_
  show mT _ _ _ _ 0 [.ref 27, .int row, .int place] [] _ _ 0 0
  rcases hq2 : inN 4 row with _ | r3
  · refine mt_aload_n dX4_runAt_0 rfl rfl ?_
    refine mt_aload_n dX4_runAt_1 rfl rfl ?_
    refine mt_iload_n dX4_runAt_2 rfl ?_
    refine mt_iload_n dX4_runAt_3 rfl ?_
    refine mt_callV (N := mX4_isPlace) (Rc := rX4_isPlace) (As := [.int row, .int place]) (st := [.ref 27]) dX4_runAt_4 (kX4_isPlace_f hl hq2) sX4_isPlace mw_1126 mKX4 rfl C0 rfl (Nat.le_of_ble_eq_true rfl) ⟨⟨Nat.le_of_ble_eq_true rfl, Nat.le_of_ble_eq_true rfl⟩, Nat.le_of_ble_eq_true rfl, Nat.le_of_ble_eq_true rfl⟩ (fun v4 h5 n6 c7 => ?_) (fun _ _ _ hx => hx.elim)
    obtain ⟨c7a, c7b, c7c⟩ := c7
    rw [c7a, c7b, c7c]
    show mT _ _ _ _ 7 [.ref 27, .int row, .int place] [.int (nI 0), .ref 27] _ _ _ _
    refine mt_iconst dX4_runAt_7 (v := nI 1) rfl ?_
    refine mt_callV (N := mX4_isLet) (Rc := rX4_isLet) (As := [.int (nI 0), .int (nI 1)]) (st := []) dX4_runAt_8 (kX4_isLet (t := false) (f := true) hl C0) sX4_isLet mw_1092 mKX4 rfl C0 rfl (Nat.le_of_ble_eq_true rfl) ⟨⟨Nat.le_of_ble_eq_true rfl, Nat.le_of_ble_eq_true rfl⟩, Nat.le_of_ble_eq_true rfl, Nat.le_of_ble_eq_true rfl⟩ (fun v8 h9 n10 c11 => ?_) (fun _ _ _ hx => hx.elim)
    obtain ⟨c11a, c11b, c11c, c11d⟩ := c11
    rw [c11a, c11b]
    show mT _ _ _ _ 11 [.ref 27, .int row, .int place] [.int (nI 0)] _ _ _ _
    refine mt_if_eq dX4_runAt_11 (tgt := 23) rfl (fun q12 => ?_) (fun q12 => ?_)
    · have q12 := (mI_eq0 (by omega)).mp q12
      refine mt_iconst dX4_runAt_23 (v := nI 0) rfl ?_
      refine mt_ireturn dX4_runAt_24 rfl rfl (Nat.le_of_ble_eq_true rfl) (Nat.le_of_ble_eq_true rfl) ?_
      exact mOkq.no (k := 1) (S' := S) (by simp only [sp_runAt, dAt_n (k := 4) (x := row) hq2, if_pos q12]) (by decide) rfl (by omega) c11c (by omega) (mRows.fr (n' := n) HR (by omega) (fun j j1 j2 j3 => c11d (j) (by omega)) (by omega)) (fun j hj => c11d j (by omega))
    · have q12 := (not_congr (mI_eq0 (by omega))).mp q12
      exact absurd q12 (by decide)
  · obtain ⟨hr3, rfl⟩ := inN_of hq2 (by first | decide | omega)
    obtain ⟨⟨ka_13, kb_13, kc_13, kd_13⟩, kf_13, ke_13, kg_13⟩ := AK_1 r3 hr3
    obtain ⟨⟨sa_13, sb_13, sc_13, sd_13⟩, sf_13, se_13, sg_13⟩ := AS_1 r3 hr3
    have kn_13 := NE_1 r3 r3 hr3 hr3
    have kl_13 := LE_1 r3 hr3
    have km_13 := rroom_le (r := r3)
    rcases hq14 : inN (S.1 r3).length place with _ | p15
    · refine mt_aload_n dX4_runAt_0 rfl rfl ?_
      refine mt_aload_n dX4_runAt_1 rfl rfl ?_
      refine mt_iload_n dX4_runAt_2 rfl ?_
      refine mt_iload_n dX4_runAt_3 rfl ?_
      refine mt_callV (N := mX4_isPlace) (Rc := rX4_isPlace) (As := [.int (nI r3), .int place]) (st := [.ref 27]) dX4_runAt_4 (kX4_isPlace hl C0 HR (by omega) (by omega)) sX4_isPlace mw_1126 mKX4 rfl C0 rfl (Nat.le_of_ble_eq_true rfl) ⟨⟨Nat.le_of_ble_eq_true rfl, Nat.le_of_ble_eq_true rfl⟩, Nat.le_of_ble_eq_true rfl, Nat.le_of_ble_eq_true rfl⟩ (fun v16 h17 n18 c19 => ?_) (fun _ _ _ hx => hx.elim)
      obtain ⟨c19a, c19b, c19c⟩ := c19
      rw [show (inN (S.1 r3).length place).isSome = false from by rw [hq14]; rfl] at c19a
      rw [c19a, c19b, c19c]
      show mT _ _ _ _ 7 [.ref 27, .int (nI r3), .int place] [.int (nI 0), .ref 27] _ _ _ _
      refine mt_iconst dX4_runAt_7 (v := nI 1) rfl ?_
      refine mt_callV (N := mX4_isLet) (Rc := rX4_isLet) (As := [.int (nI 0), .int (nI 1)]) (st := []) dX4_runAt_8 (kX4_isLet (t := false) (f := true) hl C0) sX4_isLet mw_1092 mKX4 rfl C0 rfl (Nat.le_of_ble_eq_true rfl) ⟨⟨Nat.le_of_ble_eq_true rfl, Nat.le_of_ble_eq_true rfl⟩, Nat.le_of_ble_eq_true rfl, Nat.le_of_ble_eq_true rfl⟩ (fun v20 h21 n22 c23 => ?_) (fun _ _ _ hx => hx.elim)
      obtain ⟨c23a, c23b, c23c, c23d⟩ := c23
      rw [c23a, c23b]
      show mT _ _ _ _ 11 [.ref 27, .int (nI r3), .int place] [.int (nI 0)] _ _ _ _
      refine mt_if_eq dX4_runAt_11 (tgt := 23) rfl (fun q24 => ?_) (fun q24 => ?_)
      · have q24 := (mI_eq0 (by omega)).mp q24
        refine mt_iconst dX4_runAt_23 (v := nI 0) rfl ?_
        refine mt_ireturn dX4_runAt_24 rfl rfl (Nat.le_of_ble_eq_true rfl) (Nat.le_of_ble_eq_true rfl) ?_
        exact mOkq.no (k := 1) (S' := S) (by simp only [sp_runAt, dAt_s (k := 4) hr3 (by first | decide | omega), dAt_n (k := (S.1 r3).length) (x := place) hq14, if_pos q24]) (by decide) rfl (by omega) c23c (by omega) (mRows.fr (n' := n) HR (by omega) (fun j j1 j2 j3 => c23d (j) (by omega)) (by omega)) (fun j hj => c23d j (by omega))
      · have q24 := (not_congr (mI_eq0 (by omega))).mp q24
        exact absurd q24 (by decide)
    · obtain ⟨hp15, rfl⟩ := inN_of hq14 (by first | decide | omega)
      refine mt_aload_n dX4_runAt_0 rfl rfl ?_
      refine mt_aload_n dX4_runAt_1 rfl rfl ?_
      refine mt_iload_n dX4_runAt_2 rfl ?_
      refine mt_iload_n dX4_runAt_3 rfl ?_
      refine mt_callV (N := mX4_isPlace) (Rc := rX4_isPlace) (As := [.int (nI r3), .int (nI p15)]) (st := [.ref 27]) dX4_runAt_4 (kX4_isPlace hl C0 HR (by omega) (by omega)) sX4_isPlace mw_1126 mKX4 rfl C0 rfl (Nat.le_of_ble_eq_true rfl) ⟨⟨Nat.le_of_ble_eq_true rfl, Nat.le_of_ble_eq_true rfl⟩, Nat.le_of_ble_eq_true rfl, Nat.le_of_ble_eq_true rfl⟩ (fun v25 h26 n27 c28 => ?_) (fun _ _ _ hx => hx.elim)
      obtain ⟨c28a, c28b, c28c⟩ := c28
      rw [show (inN (S.1 r3).length (nI p15)).isSome = true from by rw [inN_some hp15 (by omega)]; rfl] at c28a
      rw [c28a, c28b, c28c]
      show mT _ _ _ _ 7 [.ref 27, .int (nI r3), .int (nI p15)] [.int (nI 1), .ref 27] _ _ _ _
      refine mt_iconst dX4_runAt_7 (v := nI 1) rfl ?_
      refine mt_callV (N := mX4_isLet) (Rc := rX4_isLet) (As := [.int (nI 1), .int (nI 1)]) (st := []) dX4_runAt_8 (kX4_isLet (t := true) (f := true) hl C0) sX4_isLet mw_1092 mKX4 rfl C0 rfl (Nat.le_of_ble_eq_true rfl) ⟨⟨Nat.le_of_ble_eq_true rfl, Nat.le_of_ble_eq_true rfl⟩, Nat.le_of_ble_eq_true rfl, Nat.le_of_ble_eq_true rfl⟩ (fun v29 h30 n31 c32 => ?_) (fun _ _ _ hx => hx.elim)
      obtain ⟨c32a, c32b, c32c, c32d⟩ := c32
      rw [c32a, c32b]
      show mT _ _ _ _ 11 [.ref 27, .int (nI r3), .int (nI p15)] [.int (nI 1)] _ _ _ _
      refine mt_if_eq dX4_runAt_11 (tgt := 23) rfl (fun q33 => ?_) (fun q33 => ?_)
      · have q33 := (mI_eq0 (by omega)).mp q33
        exact absurd q33 (by decide)
      · have q33 := (not_congr (mI_eq0 (by omega))).mp q33
        refine mt_aload_n dX4_runAt_14 rfl rfl ?_
        refine mt_iload_n dX4_runAt_15 rfl ?_
        refine mt_iload_n dX4_runAt_16 rfl ?_
        refine mt_callV (N := mX4_behind) (Rc := rX4_behind) (As := [.int (nI r3), .int (nI p15)]) (st := []) dX4_runAt_17 (kX4_behind hl c32c (mRows.fr (n' := n) HR (by omega) (fun j j1 j2 j3 => c32d (j) (by omega)) (by omega)) (by omega) (by omega)) sX4_behind mw_1247 mKX4 rfl c32c rfl (Nat.le_of_ble_eq_true rfl) ⟨⟨Nat.le_of_ble_eq_true rfl, Nat.le_of_ble_eq_true rfl⟩, Nat.le_of_ble_eq_true rfl, Nat.le_of_ble_eq_true rfl⟩ (fun v34 h35 n36 c37 => ?_) (fun _ _ _ hx => hx.elim)
        obtain ⟨c37a, c37b, c37c⟩ := c37
        rw [c37a, c37b, c37c]
        show mT _ _ _ _ 20 [.ref 27, .int (nI r3), .int (nI p15)] [.int (nI (q_endOfRun (S.1 r3) p15 - p15))] _ _ _ _
        refine mt_goto dX4_runAt_20 (tgt := 24) rfl ?_
        refine mt_ireturn dX4_runAt_24 rfl rfl (Nat.le_of_ble_eq_true rfl) (Nat.le_of_ble_eq_true rfl) ?_
        exact mOkq.of (x := .int (nI (q_endOfRun (S.1 r3) p15 - p15))) (S' := ((S).1, S.2.1, S.2.2.1, S.2.2.2.1, S.2.2.2.2)) (by simp only [sp_runAt, dAt_s (k := 4) hr3 (by first | decide | omega), dAt_s (k := (S.1 r3).length) hp15 (by first | decide | omega), if_neg q33] <;> first | rfl | simp_all) rfl (by omega) c32c (by omega) (mRows.fr (n' := n) HR (by omega) (fun j j1 j2 j3 => c32d (j) (by omega)) (by omega)) (fun j hj => c32d j (by omega))
def mp_after (S : cS) (row : Int32) (place : Int32) : Nat × Value × cS := dAt S 4 row fun r => dAt S ((S.1 r).length - 1) place fun p => (0, .int (mq_pairs (S.1 r) (nI 1) + sideF (xk (S.1 r) (p + 1)) (xk (S.1 r) p)), S)
abbrev rX4_after : Room := { frames := 3, cells := 0, slots := 0, locals := 64 }
set_option maxRecDepth 100000 in
set_option maxHeartbeats 2000000 in
theorem kX4_after {l : Launch} (hl : l.stackTraces = false) {h : mH} {n : Nat} {S : cS} {th : Int32} {row : Int32} {place : Int32} (C : mAt h n S th) : mC l mX4_after rX4_after [.ref 27, .int row, .int place] h n (mOkq (mp_after S row place) (.int (nI 0)) h n) (mNX) := by
  obtain ⟨C0, h39, kx, sx, HR⟩ := id C
  obtain ⟨⟨gk_1, G28_1, GK_1⟩, ⟨gs_1, G33_1, GS_1⟩, AK_1, AS_1, NE_1, NQ_1, LE_1⟩ := id HR
  refine mm_enter hl (by decide +kernel) rfl rfl rfl (Nat.le_of_ble_eq_true rfl) ?_
  show mT _ _ _ _ 0 [.ref 27, .int row, .int place] [] _ _ 0 0
  rcases hq2 : inN 4 row with _ | r3
  · refine mt_aload_n dX4_after_0 rfl rfl ?_
    refine mt_aload_n dX4_after_1 rfl rfl ?_
    refine mt_iload_n dX4_after_2 rfl ?_
    refine mt_iload_n dX4_after_3 rfl ?_
    refine mt_callV (N := mX4_isPlace) (Rc := rX4_isPlace) (As := [.int row, .int place]) (st := [.ref 27]) dX4_after_4 (kX4_isPlace_f hl hq2) sX4_isPlace mw_1126 mKX4 rfl C0 rfl (Nat.le_of_ble_eq_true rfl) ⟨⟨Nat.le_of_ble_eq_true rfl, Nat.le_of_ble_eq_true rfl⟩, Nat.le_of_ble_eq_true rfl, Nat.le_of_ble_eq_true rfl⟩ (fun v4 h5 n6 c7 => ?_) (fun _ _ _ hx => hx.elim)
    obtain ⟨c7a, c7b, c7c⟩ := c7
    rw [c7a, c7b, c7c]
    show mT _ _ _ _ 7 [.ref 27, .int row, .int place] [.int (nI 0), .ref 27] _ _ _ _
    refine mt_if_eq dX4_after_7 (tgt := 25) rfl (fun q8 => ?_) (fun q8 => ?_)
    · have q8 := (mI_eq0 (by omega)).mp q8
      refine mt_iconst dX4_after_25 (v := nI 0) rfl ?_
      refine mt_iconst dX4_after_26 (v := nI 1) rfl ?_
      refine mt_callV (N := mX4_isLet) (Rc := rX4_isLet) (As := [.int (nI 0), .int (nI 1)]) (st := []) dX4_after_27 (kX4_isLet (t := false) (f := true) hl C0) sX4_isLet mw_1092 mKX4 rfl C0 rfl (Nat.le_of_ble_eq_true rfl) ⟨⟨Nat.le_of_ble_eq_true rfl, Nat.le_of_ble_eq_true rfl⟩, Nat.le_of_ble_eq_true rfl, Nat.le_of_ble_eq_true rfl⟩ (fun v9 h10 n11 c12 => ?_) (fun _ _ _ hx => hx.elim)
      obtain ⟨c12a, c12b, c12c, c12d⟩ := c12
      rw [c12a, c12b]
      show mT _ _ _ _ 30 [.ref 27, .int row, .int place] [.int (nI 0)] _ _ _ _
      refine mt_if_ne dX4_after_30 (tgt := 35) rfl (fun q13 => ?_) (fun q13 => ?_)
      · have q13 := (not_congr (mI_eq0 (by omega))).mp q13
        exact absurd q13 (by decide)
      · have q13 := (mI_eq0 (by omega)).mp q13
        refine mt_iconst dX4_after_33 (v := nI 0) rfl ?_
        refine mt_ireturn dX4_after_34 rfl rfl (Nat.le_of_ble_eq_true rfl) (Nat.le_of_ble_eq_true rfl) ?_
        exact mOkq.no (k := 1) (S' := S) (by simp only [mp_after, dAt_n (k := 4) (x := row) hq2, if_pos q8, if_pos q13]) (by decide) rfl (by omega) c12c (by omega) (mRows.fr (n' := n) HR (by omega) (fun j j1 j2 j3 => c12d (j) (by omega)) (by omega)) (fun j hj => c12d j (by omega))
    · have q8 := (not_congr (mI_eq0 (by omega))).mp q8
      exact absurd q8 (by decide)
  · obtain ⟨hr3, rfl⟩ := inN_of hq2 (by first | decide | omega)
    obtain ⟨⟨ka_14, kb_14, kc_14, kd_14⟩, kf_14, ke_14, kg_14⟩ := AK_1 r3 hr3
    obtain ⟨⟨sa_14, sb_14, sc_14, sd_14⟩, sf_14, se_14, sg_14⟩ := AS_1 r3 hr3
    have kn_14 := NE_1 r3 r3 hr3 hr3
    have kl_14 := LE_1 r3 hr3
    have km_14 := rroom_le (r := r3)
    rcases hq15 : inN ((S.1 r3).length - 1) place with _ | p16
    · rcases hq17 : inN (S.1 r3).length place with _ | p18
      · refine mt_aload_n dX4_after_0 rfl rfl ?_
        refine mt_aload_n dX4_after_1 rfl rfl ?_
        refine mt_iload_n dX4_after_2 rfl ?_
        refine mt_iload_n dX4_after_3 rfl ?_
        refine mt_callV (N := mX4_isPlace) (Rc := rX4_isPlace) (As := [.int (nI r3), .int place]) (st := [.ref 27]) dX4_after_4 (kX4_isPlace hl C0 HR (by omega) (by omega)) sX4_isPlace mw_1126 mKX4 rfl C0 rfl (Nat.le_of_ble_eq_true rfl) ⟨⟨Nat.le_of_ble_eq_true rfl, Nat.le_of_ble_eq_true rfl⟩, Nat.le_of_ble_eq_true rfl, Nat.le_of_ble_eq_true rfl⟩ (fun v19 h20 n21 c22 => ?_) (fun _ _ _ hx => hx.elim)
        obtain ⟨c22a, c22b, c22c⟩ := c22
        rw [show (inN (S.1 r3).length place).isSome = false from by rw [hq17]; rfl] at c22a
        rw [c22a, c22b, c22c]
        show mT _ _ _ _ 7 [.ref 27, .int (nI r3), .int place] [.int (nI 0), .ref 27] _ _ _ _
        refine mt_if_eq dX4_after_7 (tgt := 25) rfl (fun q23 => ?_) (fun q23 => ?_)
        · have q23 := (mI_eq0 (by omega)).mp q23
          refine mt_iconst dX4_after_25 (v := nI 0) rfl ?_
          refine mt_iconst dX4_after_26 (v := nI 1) rfl ?_
          refine mt_callV (N := mX4_isLet) (Rc := rX4_isLet) (As := [.int (nI 0), .int (nI 1)]) (st := []) dX4_after_27 (kX4_isLet (t := false) (f := true) hl C0) sX4_isLet mw_1092 mKX4 rfl C0 rfl (Nat.le_of_ble_eq_true rfl) ⟨⟨Nat.le_of_ble_eq_true rfl, Nat.le_of_ble_eq_true rfl⟩, Nat.le_of_ble_eq_true rfl, Nat.le_of_ble_eq_true rfl⟩ (fun v24 h25 n26 c27 => ?_) (fun _ _ _ hx => hx.elim)
          obtain ⟨c27a, c27b, c27c, c27d⟩ := c27
          rw [c27a, c27b]
          show mT _ _ _ _ 30 [.ref 27, .int (nI r3), .int place] [.int (nI 0)] _ _ _ _
          refine mt_if_ne dX4_after_30 (tgt := 35) rfl (fun q28 => ?_) (fun q28 => ?_)
          · have q28 := (not_congr (mI_eq0 (by omega))).mp q28
            exact absurd q28 (by decide)
          · have q28 := (mI_eq0 (by omega)).mp q28
            refine mt_iconst dX4_after_33 (v := nI 0) rfl ?_
            refine mt_ireturn dX4_after_34 rfl rfl (Nat.le_of_ble_eq_true rfl) (Nat.le_of_ble_eq_true rfl) ?_
            exact mOkq.no (k := 1) (S' := S) (by simp only [mp_after, dAt_s (k := 4) hr3 (by first | decide | omega), dAt_n (k := ((S.1 r3).length - 1)) (x := place) hq15, if_pos q23, if_pos q28]) (by decide) rfl (by omega) c27c (by omega) (mRows.fr (n' := n) HR (by omega) (fun j j1 j2 j3 => c27d (j) (by omega)) (by omega)) (fun j hj => c27d j (by omega))
        · have q23 := (not_congr (mI_eq0 (by omega))).mp q23
          exact absurd q23 (by decide)
      · obtain ⟨hp18, rfl⟩ := inN_of hq17 (by omega)
        have hno : ¬ p18 < (S.1 r3).length - 1 := fun z => by rw [inN_some z (by omega)] at hq15; cases hq15
        refine mt_aload_n dX4_after_0 rfl rfl ?_
        refine mt_aload_n dX4_after_1 rfl rfl ?_
        refine mt_iload_n dX4_after_2 rfl ?_
        refine mt_iload_n dX4_after_3 rfl ?_
        refine mt_callV (N := mX4_isPlace) (Rc := rX4_isPlace) (As := [.int (nI r3), .int (nI p18)]) (st := [.ref 27]) dX4_after_4 (kX4_isPlace hl C0 HR (by omega) (by omega)) sX4_isPlace mw_1126 mKX4 rfl C0 rfl (Nat.le_of_ble_eq_true rfl) ⟨⟨Nat.le_of_ble_eq_true rfl, Nat.le_of_ble_eq_true rfl⟩, Nat.le_of_ble_eq_true rfl, Nat.le_of_ble_eq_true rfl⟩ (fun v29 h30 n31 c32 => ?_) (fun _ _ _ hx => hx.elim)
        obtain ⟨c32a, c32b, c32c⟩ := c32
        rw [show (inN (S.1 r3).length (nI p18)).isSome = true from by rw [inN_some hp18 (by omega)]; rfl] at c32a
        rw [c32a, c32b, c32c]
        show mT _ _ _ _ 7 [.ref 27, .int (nI r3), .int (nI p18)] [.int (nI 1), .ref 27] _ _ _ _
        refine mt_if_eq dX4_after_7 (tgt := 25) rfl (fun q33 => ?_) (fun q33 => ?_)
        · have q33 := (mI_eq0 (by omega)).mp q33
          exact absurd q33 (by decide)
        · have q33 := (not_congr (mI_eq0 (by omega))).mp q33
          refine mt_aload_n dX4_after_10 rfl rfl ?_
          refine mt_iload_n dX4_after_11 rfl ?_
          refine mt_iload_n dX4_after_12 rfl ?_
          refine mt_iconst dX4_after_13 (v := nI 1) rfl ?_
          refine mp_iadd dX4_after_14 (v := nI (p18 + 1)) (nI_add _ _) ?_
          refine mt_callV (N := mX4_isPlace) (Rc := rX4_isPlace) (As := [.int (nI r3), .int (nI (p18 + 1))]) (st := [.ref 27]) dX4_after_15 (kX4_isPlace hl C0 HR (by omega) (by omega)) sX4_isPlace mw_1126 mKX4 rfl C0 rfl (Nat.le_of_ble_eq_true rfl) ⟨⟨Nat.le_of_ble_eq_true rfl, Nat.le_of_ble_eq_true rfl⟩, Nat.le_of_ble_eq_true rfl, Nat.le_of_ble_eq_true rfl⟩ (fun v34 h35 n36 c37 => ?_) (fun _ _ _ hx => hx.elim)
          obtain ⟨c37a, c37b, c37c⟩ := c37
          rw [show (inN (S.1 r3).length (nI (p18 + 1))).isSome = false from by rw [inN_out (by omega) (by omega)]; rfl] at c37a
          rw [c37a, c37b, c37c]
          show mT _ _ _ _ 18 [.ref 27, .int (nI r3), .int (nI p18)] [.int (nI 0), .ref 27] _ _ _ _
          refine mt_if_eq dX4_after_18 (tgt := 25) rfl (fun q38 => ?_) (fun q38 => ?_)
          · have q38 := (mI_eq0 (by omega)).mp q38
            refine mt_iconst dX4_after_25 (v := nI 0) rfl ?_
            refine mt_iconst dX4_after_26 (v := nI 1) rfl ?_
            refine mt_callV (N := mX4_isLet) (Rc := rX4_isLet) (As := [.int (nI 0), .int (nI 1)]) (st := []) dX4_after_27 (kX4_isLet (t := false) (f := true) hl C0) sX4_isLet mw_1092 mKX4 rfl C0 rfl (Nat.le_of_ble_eq_true rfl) ⟨⟨Nat.le_of_ble_eq_true rfl, Nat.le_of_ble_eq_true rfl⟩, Nat.le_of_ble_eq_true rfl, Nat.le_of_ble_eq_true rfl⟩ (fun v39 h40 n41 c42 => ?_) (fun _ _ _ hx => hx.elim)
            obtain ⟨c42a, c42b, c42c, c42d⟩ := c42
            rw [c42a, c42b]
            show mT _ _ _ _ 30 [.ref 27, .int (nI r3), .int (nI p18)] [.int (nI 0)] _ _ _ _
            refine mt_if_ne dX4_after_30 (tgt := 35) rfl (fun q43 => ?_) (fun q43 => ?_)
            · have q43 := (not_congr (mI_eq0 (by omega))).mp q43
              exact absurd q43 (by decide)
            · have q43 := (mI_eq0 (by omega)).mp q43
              refine mt_iconst dX4_after_33 (v := nI 0) rfl ?_
              refine mt_ireturn dX4_after_34 rfl rfl (Nat.le_of_ble_eq_true rfl) (Nat.le_of_ble_eq_true rfl) ?_
              exact mOkq.no (k := 1) (S' := S) (by simp only [mp_after, dAt_s (k := 4) hr3 (by first | decide | omega), dAt_n (k := ((S.1 r3).length - 1)) (x := nI p18) hq15, if_neg q33, if_pos q38, if_pos q43]) (by decide) rfl (by omega) c42c (by omega) (mRows.fr (n' := n) HR (by omega) (fun j j1 j2 j3 => c42d (j) (by omega)) (by omega)) (fun j hj => c42d j (by omega))
          · have q38 := (not_congr (mI_eq0 (by omega))).mp q38
            exact absurd q38 (by decide)
    · obtain ⟨hp16, rfl⟩ := inN_of hq15 (by first | decide | omega)
      refine mt_aload_n dX4_after_0 rfl rfl ?_
      refine mt_aload_n dX4_after_1 rfl rfl ?_
      refine mt_iload_n dX4_after_2 rfl ?_
      refine mt_iload_n dX4_after_3 rfl ?_
      refine mt_callV (N := mX4_isPlace) (Rc := rX4_isPlace) (As := [.int (nI r3), .int (nI p16)]) (st := [.ref 27]) dX4_after_4 (kX4_isPlace hl C0 HR (by omega) (by omega)) sX4_isPlace mw_1126 mKX4 rfl C0 rfl (Nat.le_of_ble_eq_true rfl) ⟨⟨Nat.le_of_ble_eq_true rfl, Nat.le_of_ble_eq_true rfl⟩, Nat.le_of_ble_eq_true rfl, Nat.le_of_ble_eq_true rfl⟩ (fun v44 h45 n46 c47 => ?_) (fun _ _ _ hx => hx.elim)
      obtain ⟨c47a, c47b, c47c⟩ := c47
      rw [show (inN (S.1 r3).length (nI p16)).isSome = true from by rw [inN_some (show p16 < (S.1 r3).length by omega) (by omega)]; rfl] at c47a
      rw [c47a, c47b, c47c]
      show mT _ _ _ _ 7 [.ref 27, .int (nI r3), .int (nI p16)] [.int (nI 1), .ref 27] _ _ _ _
      refine mt_if_eq dX4_after_7 (tgt := 25) rfl (fun q48 => ?_) (fun q48 => ?_)
      · have q48 := (mI_eq0 (by omega)).mp q48
        exact absurd q48 (by decide)
      · have q48 := (not_congr (mI_eq0 (by omega))).mp q48
        refine mt_aload_n dX4_after_10 rfl rfl ?_
        refine mt_iload_n dX4_after_11 rfl ?_
        refine mt_iload_n dX4_after_12 rfl ?_
        refine mt_iconst dX4_after_13 (v := nI 1) rfl ?_
        refine mp_iadd dX4_after_14 (v := nI (p16 + 1)) (nI_add _ _) ?_
        refine mt_callV (N := mX4_isPlace) (Rc := rX4_isPlace) (As := [.int (nI r3), .int (nI (p16 + 1))]) (st := [.ref 27]) dX4_after_15 (kX4_isPlace hl C0 HR (by omega) (by omega)) sX4_isPlace mw_1126 mKX4 rfl C0 rfl (Nat.le_of_ble_eq_true rfl) ⟨⟨Nat.le_of_ble_eq_true rfl, Nat.le_of_ble_eq_true rfl⟩, Nat.le_of_ble_eq_true rfl, Nat.le_of_ble_eq_true rfl⟩ (fun v49 h50 n51 c52 => ?_) (fun _ _ _ hx => hx.elim)
        obtain ⟨c52a, c52b, c52c⟩ := c52
        rw [show (inN (S.1 r3).length (nI (p16 + 1))).isSome = true from by rw [inN_some (show p16 + 1 < (S.1 r3).length by omega) (by omega)]; rfl] at c52a
        rw [c52a, c52b, c52c]
        show mT _ _ _ _ 18 [.ref 27, .int (nI r3), .int (nI p16)] [.int (nI 1), .ref 27] _ _ _ _
        refine mt_if_eq dX4_after_18 (tgt := 25) rfl (fun q53 => ?_) (fun q53 => ?_)
        · have q53 := (mI_eq0 (by omega)).mp q53
          exact absurd q53 (by decide)
        · have q53 := (not_congr (mI_eq0 (by omega))).mp q53
          refine mt_iconst dX4_after_21 (v := nI 1) rfl ?_
          refine mt_goto dX4_after_22 (tgt := 26) rfl ?_
          refine mt_iconst dX4_after_26 (v := nI 1) rfl ?_
          refine mt_callV (N := mX4_isLet) (Rc := rX4_isLet) (As := [.int (nI 1), .int (nI 1)]) (st := []) dX4_after_27 (kX4_isLet (t := true) (f := true) hl C0) sX4_isLet mw_1092 mKX4 rfl C0 rfl (Nat.le_of_ble_eq_true rfl) ⟨⟨Nat.le_of_ble_eq_true rfl, Nat.le_of_ble_eq_true rfl⟩, Nat.le_of_ble_eq_true rfl, Nat.le_of_ble_eq_true rfl⟩ (fun v54 h55 n56 c57 => ?_) (fun _ _ _ hx => hx.elim)
          obtain ⟨c57a, c57b, c57c, c57d⟩ := c57
          rw [c57a, c57b]
          show mT _ _ _ _ 30 [.ref 27, .int (nI r3), .int (nI p16)] [.int (nI 1)] _ _ _ _
          refine mt_if_ne dX4_after_30 (tgt := 35) rfl (fun q58 => ?_) (fun q58 => ?_)
          · have q58 := (not_congr (mI_eq0 (by omega))).mp q58
            refine mt_aload_n dX4_after_35 rfl rfl ?_
            refine mt_iload_n dX4_after_36 rfl ?_
            refine mt_iconst dX4_after_37 (v := nI 1) rfl ?_
            refine mt_callV (N := mX4_pairs) (Rc := rX4_pairs) (As := [.int (nI r3), .int (nI 1)]) (st := []) dX4_after_38 (kX4_pairs hl c57c (mRows.fr (n' := n) HR (by omega) (fun j j1 j2 j3 => c57d (j) (by omega)) (by omega)) (by omega)) sX4_pairs mw_1146 mKX4 rfl c57c rfl (Nat.le_of_ble_eq_true rfl) ⟨⟨Nat.le_of_ble_eq_true rfl, Nat.le_of_ble_eq_true rfl⟩, Nat.le_of_ble_eq_true rfl, Nat.le_of_ble_eq_true rfl⟩ (fun v59 h60 n61 c62 => ?_) (fun _ _ _ hx => hx.elim)
            obtain ⟨c62a, c62b, c62c⟩ := c62
            rw [c62a, c62b, c62c]
            show mT _ _ _ _ 41 [.ref 27, .int (nI r3), .int (nI p16)] [.int (mq_pairs (S.1 r3) (nI 1))] _ _ _ _
            refine mt_aload_n dX4_after_41 rfl rfl ?_
            refine mt_getfield mKX4 (i := 0) (by decide) mw_1053 dX4_after_42 c57c rfl ?_
            refine mt_iload_n dX4_after_45 rfl ?_
            refine mp_aaload dX4_after_46 ((c57d (28) (by omega)).trans G28_1) (fun _ => rfl) rfl rfl (by omega) (by omega) (v := .ref (kx r3)) (by rw [GK_1 _ (by omega)]; rfl) ?_
            refine mt_iload_n dX4_after_47 rfl ?_
            refine mt_iconst dX4_after_48 (v := nI 1) rfl ?_
            refine mp_iadd dX4_after_49 (v := nI (p16 + 1)) (nI_add _ _) ?_
            refine mp_iaload dX4_after_50 ((c57d (kx r3) (by omega)).trans ke_14) rfl (by omega) (by omega) (v := xk (S.1 r3) (p16 + 1)) (kg_14 _ (by omega)) ?_
            refine mt_aload_n dX4_after_51 rfl rfl ?_
            refine mt_getfield mKX4 (i := 0) (by decide) mw_1053 dX4_after_52 c57c rfl ?_
            refine mt_iload_n dX4_after_55 rfl ?_
            refine mp_aaload dX4_after_56 ((c57d (28) (by omega)).trans G28_1) (fun _ => rfl) rfl rfl (by omega) (by omega) (v := .ref (kx r3)) (by rw [GK_1 _ (by omega)]; rfl) ?_
            refine mt_iload_n dX4_after_57 rfl ?_
            refine mp_iaload dX4_after_58 ((c57d (kx r3) (by omega)).trans ke_14) rfl (by omega) (by omega) (v := xk (S.1 r3) p16) (kg_14 _ (by omega)) ?_
            refine mt_callS (N := mX4_side) (Rc := rX4_side) (As := [.int (xk (S.1 r3) (p16 + 1)), .int (xk (S.1 r3) p16)]) (st := [.int (mq_pairs (S.1 r3) (nI 1))]) dX4_after_59 (kX4_side hl) sX4_side mw_1150 rfl (Nat.le_of_ble_eq_true rfl) ⟨⟨Nat.le_of_ble_eq_true rfl, Nat.le_of_ble_eq_true rfl⟩, Nat.le_of_ble_eq_true rfl, Nat.le_of_ble_eq_true rfl⟩ (fun v63 h64 n65 c66 => ?_) (fun _ _ _ hx => hx.elim)
            obtain ⟨c66a, c66b, c66c⟩ := c66
            rw [c66a, c66b, c66c]
            show mT _ _ _ _ 62 [.ref 27, .int (nI r3), .int (nI p16)] [.int (sideF (xk (S.1 r3) (p16 + 1)) (xk (S.1 r3) p16)), .int (mq_pairs (S.1 r3) (nI 1))] _ _ _ _
            refine mp_iadd dX4_after_62 (v := (mq_pairs (S.1 r3) (nI 1)) + (sideF (xk (S.1 r3) (p16 + 1)) (xk (S.1 r3) p16))) rfl ?_
            refine mt_ireturn dX4_after_63 rfl rfl (Nat.le_of_ble_eq_true rfl) (Nat.le_of_ble_eq_true rfl) ?_
            exact mOkq.of (x := .int ((mq_pairs (S.1 r3) (nI 1)) + (sideF (xk (S.1 r3) (p16 + 1)) (xk (S.1 r3) p16)))) (S' := ((S).1, S.2.1, S.2.2.1, S.2.2.2.1, S.2.2.2.2)) (by simp only [mp_after, dAt_s (k := 4) hr3 (by first | decide | omega), dAt_s (k := ((S.1 r3).length - 1)) hp16 (by first | decide | omega), if_neg q48, if_neg q53, if_neg q58] <;> first | rfl | simp_all) rfl (by omega) c57c (by omega) (mRows.fr (n' := n) HR (by omega) (fun j j1 j2 j3 => c57d (j) (by omega)) (by omega)) (fun j hj => c57d j (by omega))
          · have q58 := (mI_eq0 (by omega)).mp q58
            exact absurd q58 (by decide)
def mp_count (S : cS) (row : Int32) (key : Int32) : Nat × Value × cS := dAt S 4 row fun r => dFit S (keyOk key) (0, .int (mq_often (S.1 r) key (nI 0)), S)
abbrev rX4_count : Room := { frames := 2, cells := 0, slots := 0, locals := 49 }
set_option maxRecDepth 100000 in
set_option maxHeartbeats 2000000 in
theorem kX4_count {l : Launch} (hl : l.stackTraces = false) {h : mH} {n : Nat} {S : cS} {th : Int32} {row : Int32} {key : Int32} (C : mAt h n S th) : mC l mX4_count rX4_count [.ref 27, .int row, .int key] h n (mOkq (mp_count S row key) (.int (nI 0)) h n) (mNX) := by
  obtain ⟨C0, h39, kx, sx, HR⟩ := id C
  obtain ⟨⟨gk_1, G28_1, GK_1⟩, ⟨gs_1, G33_1, GS_1⟩, AK_1, AS_1, NE_1, NQ_1, LE_1⟩ := id HR
  refine mm_enter hl (by decide +kernel) rfl rfl rfl (Nat.le_of_ble_eq_true rfl) ?_
  show mT _ _ _ _ 0 [.ref 27, .int row, .int key] [] _ _ 0 0
  rcases hq2 : inN 4 row with _ | r3
  · refine mt_aload_n dX4_count_0 rfl rfl ?_
    refine mt_iload_n dX4_count_1 rfl ?_
    refine mt_callS (N := mX4_isRow) (Rc := rX4_isRow) (As := [.int row]) (st := [.ref 27]) dX4_count_2 (kX4_isRow hl) sX4_isRow mw_1083 rfl (Nat.le_of_ble_eq_true rfl) ⟨⟨Nat.le_of_ble_eq_true rfl, Nat.le_of_ble_eq_true rfl⟩, Nat.le_of_ble_eq_true rfl, Nat.le_of_ble_eq_true rfl⟩ (fun v4 h5 n6 c7 => ?_) (fun _ _ _ hx => hx.elim)
    obtain ⟨c7a, c7b, c7c⟩ := c7
    rw [show (inN 4 row).isSome = false from by rw [hq2]; rfl] at c7a
    rw [c7a, c7b, c7c]
    show mT _ _ _ _ 5 [.ref 27, .int row, .int key] [.int (nI 0), .ref 27] _ _ _ _
    refine mt_iload_n dX4_count_5 rfl ?_
    refine mt_ldc (v := (-99999)) dX4_count_6 mw_1113 ?_
    refine mt_ldc (v := nI 99999) dX4_count_8 mw_1114 ?_
    refine mt_callS (N := mX4_isIn) (Rc := rX4_isIn) (As := [.int key, .int (-99999), .int (nI 99999)]) (st := [.int (nI 0), .ref 27]) dX4_count_10 (kX4_isIn hl) sX4_isIn mw_1086 rfl (Nat.le_of_ble_eq_true rfl) ⟨⟨Nat.le_of_ble_eq_true rfl, Nat.le_of_ble_eq_true rfl⟩, Nat.le_of_ble_eq_true rfl, Nat.le_of_ble_eq_true rfl⟩ (fun v8 h9 n10 c11 => ?_) (fun _ _ _ hx => hx.elim)
    obtain ⟨c11a, c11b, c11c⟩ := c11
    rw [c11a, c11b, c11c]
    show mT _ _ _ _ 13 [.ref 27, .int row, .int key] [.int (mb (inR key (-99999) (nI 99999))), .int (nI 0), .ref 27] _ _ _ _
    refine mt_callV (N := mX4_isLet) (Rc := rX4_isLet) (As := [.int (nI 0), .int (mb (inR key (-99999) (nI 99999)))]) (st := []) dX4_count_13 (kX4_isLet (t := false) (f := inR key (-99999) (nI 99999)) hl C0) sX4_isLet mw_1092 mKX4 rfl C0 rfl (Nat.le_of_ble_eq_true rfl) ⟨⟨Nat.le_of_ble_eq_true rfl, Nat.le_of_ble_eq_true rfl⟩, Nat.le_of_ble_eq_true rfl, Nat.le_of_ble_eq_true rfl⟩ (fun v12 h13 n14 c15 => ?_) (fun _ _ _ hx => hx.elim)
    obtain ⟨c15a, c15b, c15c, c15d⟩ := c15
    rw [c15a, c15b]
    show mT _ _ _ _ 16 [.ref 27, .int row, .int key] [.int (nI 0)] _ _ _ _
    refine mt_if_eq dX4_count_16 (tgt := 29) rfl (fun q16 => ?_) (fun q16 => ?_)
    · have q16 := (mI_eq0 (by omega)).mp q16
      refine mt_iconst dX4_count_29 (v := nI 0) rfl ?_
      refine mt_ireturn dX4_count_30 rfl rfl (Nat.le_of_ble_eq_true rfl) (Nat.le_of_ble_eq_true rfl) ?_
      exact mOkq.no (k := 1) (S' := S) (by simp only [mp_count, dAt_n (k := 4) (x := row) hq2, if_pos q16]) (by decide) rfl (by omega) c15c (by omega) (mRows.fr (n' := n) HR (by omega) (fun j j1 j2 j3 => c15d (j) (by omega)) (by omega)) (fun j hj => c15d j (by omega))
    · have q16 := (not_congr (mI_eq0 (by omega))).mp q16
      exact absurd q16 (by decide)
  · obtain ⟨hr3, rfl⟩ := inN_of hq2 (by first | decide | omega)
    obtain ⟨⟨ka_17, kb_17, kc_17, kd_17⟩, kf_17, ke_17, kg_17⟩ := AK_1 r3 hr3
    obtain ⟨⟨sa_17, sb_17, sc_17, sd_17⟩, sf_17, se_17, sg_17⟩ := AS_1 r3 hr3
    have kn_17 := NE_1 r3 r3 hr3 hr3
    have kl_17 := LE_1 r3 hr3
    have km_17 := rroom_le (r := r3)
    rcases hk18 : keyOk key with _ | _
    · refine mt_aload_n dX4_count_0 rfl rfl ?_
      refine mt_iload_n dX4_count_1 rfl ?_
      refine mt_callS (N := mX4_isRow) (Rc := rX4_isRow) (As := [.int (nI r3)]) (st := [.ref 27]) dX4_count_2 (kX4_isRow hl) sX4_isRow mw_1083 rfl (Nat.le_of_ble_eq_true rfl) ⟨⟨Nat.le_of_ble_eq_true rfl, Nat.le_of_ble_eq_true rfl⟩, Nat.le_of_ble_eq_true rfl, Nat.le_of_ble_eq_true rfl⟩ (fun v19 h20 n21 c22 => ?_) (fun _ _ _ hx => hx.elim)
      obtain ⟨c22a, c22b, c22c⟩ := c22
      rw [show (inN 4 (nI r3)).isSome = true from by rw [inN_some hr3 (by decide)]; rfl] at c22a
      rw [c22a, c22b, c22c]
      show mT _ _ _ _ 5 [.ref 27, .int (nI r3), .int key] [.int (nI 1), .ref 27] _ _ _ _
      refine mt_iload_n dX4_count_5 rfl ?_
      refine mt_ldc (v := (-99999)) dX4_count_6 mw_1113 ?_
      refine mt_ldc (v := nI 99999) dX4_count_8 mw_1114 ?_
      refine mt_callS (N := mX4_isIn) (Rc := rX4_isIn) (As := [.int key, .int (-99999), .int (nI 99999)]) (st := [.int (nI 1), .ref 27]) dX4_count_10 (kX4_isIn hl) sX4_isIn mw_1086 rfl (Nat.le_of_ble_eq_true rfl) ⟨⟨Nat.le_of_ble_eq_true rfl, Nat.le_of_ble_eq_true rfl⟩, Nat.le_of_ble_eq_true rfl, Nat.le_of_ble_eq_true rfl⟩ (fun v23 h24 n25 c26 => ?_) (fun _ _ _ hx => hx.elim)
      obtain ⟨c26a, c26b, c26c⟩ := c26
      rw [show inR key (-99999) (nI 99999) = false from hk18] at c26a
      rw [c26a, c26b, c26c]
      show mT _ _ _ _ 13 [.ref 27, .int (nI r3), .int key] [.int (nI 0), .int (nI 1), .ref 27] _ _ _ _
      refine mt_callV (N := mX4_isLet) (Rc := rX4_isLet) (As := [.int (nI 1), .int (nI 0)]) (st := []) dX4_count_13 (kX4_isLet (t := true) (f := false) hl C0) sX4_isLet mw_1092 mKX4 rfl C0 rfl (Nat.le_of_ble_eq_true rfl) ⟨⟨Nat.le_of_ble_eq_true rfl, Nat.le_of_ble_eq_true rfl⟩, Nat.le_of_ble_eq_true rfl, Nat.le_of_ble_eq_true rfl⟩ (fun v27 h28 n29 c30 => ?_) (fun _ _ _ hx => hx.elim)
      obtain ⟨c30a, c30b, c30c, c30d⟩ := c30
      rw [c30a, c30b]
      show mT _ _ _ _ 16 [.ref 27, .int (nI r3), .int key] [.int (nI 0)] _ _ _ _
      refine mt_if_eq dX4_count_16 (tgt := 29) rfl (fun q31 => ?_) (fun q31 => ?_)
      · have q31 := (mI_eq0 (by omega)).mp q31
        refine mt_iconst dX4_count_29 (v := nI 0) rfl ?_
        refine mt_ireturn dX4_count_30 rfl rfl (Nat.le_of_ble_eq_true rfl) (Nat.le_of_ble_eq_true rfl) ?_
        exact mOkq.no (k := 2) (S' := S) (by simp only [mp_count, dAt_s (k := 4) hr3 (by first | decide | omega), dFit_n hk18, if_pos q31]) (by decide) rfl (by omega) c30c (by omega) (mRows.fr (n' := n) HR (by omega) (fun j j1 j2 j3 => c30d (j) (by omega)) (by omega)) (fun j hj => c30d j (by omega))
      · have q31 := (not_congr (mI_eq0 (by omega))).mp q31
        exact absurd q31 (by decide)
    · refine mt_aload_n dX4_count_0 rfl rfl ?_
      refine mt_iload_n dX4_count_1 rfl ?_
      refine mt_callS (N := mX4_isRow) (Rc := rX4_isRow) (As := [.int (nI r3)]) (st := [.ref 27]) dX4_count_2 (kX4_isRow hl) sX4_isRow mw_1083 rfl (Nat.le_of_ble_eq_true rfl) ⟨⟨Nat.le_of_ble_eq_true rfl, Nat.le_of_ble_eq_true rfl⟩, Nat.le_of_ble_eq_true rfl, Nat.le_of_ble_eq_true rfl⟩ (fun v32 h33 n34 c35 => ?_) (fun _ _ _ hx => hx.elim)
      obtain ⟨c35a, c35b, c35c⟩ := c35
      rw [show (inN 4 (nI r3)).isSome = true from by rw [inN_some hr3 (by decide)]; rfl] at c35a
      rw [c35a, c35b, c35c]
      show mT _ _ _ _ 5 [.ref 27, .int (nI r3), .int key] [.int (nI 1), .ref 27] _ _ _ _
      refine mt_iload_n dX4_count_5 rfl ?_
      refine mt_ldc (v := (-99999)) dX4_count_6 mw_1113 ?_
      refine mt_ldc (v := nI 99999) dX4_count_8 mw_1114 ?_
      refine mt_callS (N := mX4_isIn) (Rc := rX4_isIn) (As := [.int key, .int (-99999), .int (nI 99999)]) (st := [.int (nI 1), .ref 27]) dX4_count_10 (kX4_isIn hl) sX4_isIn mw_1086 rfl (Nat.le_of_ble_eq_true rfl) ⟨⟨Nat.le_of_ble_eq_true rfl, Nat.le_of_ble_eq_true rfl⟩, Nat.le_of_ble_eq_true rfl, Nat.le_of_ble_eq_true rfl⟩ (fun v36 h37 n38 c39 => ?_) (fun _ _ _ hx => hx.elim)
      obtain ⟨c39a, c39b, c39c⟩ := c39
      rw [show inR key (-99999) (nI 99999) = true from hk18] at c39a
      rw [c39a, c39b, c39c]
      show mT _ _ _ _ 13 [.ref 27, .int (nI r3), .int key] [.int (nI 1), .int (nI 1), .ref 27] _ _ _ _
      refine mt_callV (N := mX4_isLet) (Rc := rX4_isLet) (As := [.int (nI 1), .int (nI 1)]) (st := []) dX4_count_13 (kX4_isLet (t := true) (f := true) hl C0) sX4_isLet mw_1092 mKX4 rfl C0 rfl (Nat.le_of_ble_eq_true rfl) ⟨⟨Nat.le_of_ble_eq_true rfl, Nat.le_of_ble_eq_true rfl⟩, Nat.le_of_ble_eq_true rfl, Nat.le_of_ble_eq_true rfl⟩ (fun v40 h41 n42 c43 => ?_) (fun _ _ _ hx => hx.elim)
      obtain ⟨c43a, c43b, c43c, c43d⟩ := c43
      rw [c43a, c43b]
      show mT _ _ _ _ 16 [.ref 27, .int (nI r3), .int key] [.int (nI 1)] _ _ _ _
      refine mt_if_eq dX4_count_16 (tgt := 29) rfl (fun q44 => ?_) (fun q44 => ?_)
      · have q44 := (mI_eq0 (by omega)).mp q44
        exact absurd q44 (by decide)
      · have q44 := (not_congr (mI_eq0 (by omega))).mp q44
        refine mt_aload_n dX4_count_19 rfl rfl ?_
        refine mt_iload_n dX4_count_20 rfl ?_
        refine mt_iload_n dX4_count_21 rfl ?_
        refine mt_iconst dX4_count_22 (v := nI 0) rfl ?_
        refine mt_callV (N := mX4_often) (Rc := rX4_often) (As := [.int (nI r3), .int key, .int (nI 0)]) (st := []) dX4_count_23 (kX4_often hl c43c (mRows.fr (n' := n) HR (by omega) (fun j j1 j2 j3 => c43d (j) (by omega)) (by omega)) (by omega)) sX4_often mw_1299 mKX4 rfl c43c rfl (Nat.le_of_ble_eq_true rfl) ⟨⟨Nat.le_of_ble_eq_true rfl, Nat.le_of_ble_eq_true rfl⟩, Nat.le_of_ble_eq_true rfl, Nat.le_of_ble_eq_true rfl⟩ (fun v45 h46 n47 c48 => ?_) (fun _ _ _ hx => hx.elim)
        obtain ⟨c48a, c48b, c48c⟩ := c48
        rw [c48a, c48b, c48c]
        show mT _ _ _ _ 26 [.ref 27, .int (nI r3), .int key] [.int (mq_often (S.1 r3) key (nI 0))] _ _ _ _
        refine mt_goto dX4_count_26 (tgt := 30) rfl ?_
        refine mt_ireturn dX4_count_30 rfl rfl (Nat.le_of_ble_eq_true rfl) (Nat.le_of_ble_eq_true rfl) ?_
        exact mOkq.of (x := .int (mq_often (S.1 r3) key (nI 0))) (S' := ((S).1, S.2.1, S.2.2.1, S.2.2.2.1, S.2.2.2.2)) (by simp only [mp_count, dAt_s (k := 4) hr3 (by first | decide | omega), dFit_s hk18, if_neg q44] <;> first | rfl | simp_all) rfl (by omega) c43c (by omega) (mRows.fr (n' := n) HR (by omega) (fun j j1 j2 j3 => c43d (j) (by omega)) (by omega)) (fun j hj => c43d j (by omega))
def mp_below (S : cS) (row : Int32) (key : Int32) : Nat × Value × cS := dAt S 4 row fun r => dFit S (keyOk key) (0, .int (mq_often (S.1 r) key (-1)), S)
abbrev rX4_below : Room := { frames := 2, cells := 0, slots := 0, locals := 49 }
set_option maxRecDepth 100000 in
set_option maxHeartbeats 2000000 in
theorem kX4_below {l : Launch} (hl : l.stackTraces = false) {h : mH} {n : Nat} {S : cS} {th : Int32} {row : Int32} {key : Int32} (C : mAt h n S th) : mC l mX4_below rX4_below [.ref 27, .int row, .int key] h n (mOkq (mp_below S row key) (.int (nI 0)) h n) (mNX) := by
  obtain ⟨C0, h39, kx, sx, HR⟩ := id C
  obtain ⟨⟨gk_1, G28_1, GK_1⟩, ⟨gs_1, G33_1, GS_1⟩, AK_1, AS_1, NE_1, NQ_1, LE_1⟩ := id HR
  refine mm_enter hl (by decide +kernel) rfl rfl rfl (Nat.le_of_ble_eq_true rfl) ?_
  show mT _ _ _ _ 0 [.ref 27, .int row, .int key] [] _ _ 0 0
  rcases hq2 : inN 4 row with _ | r3
  · refine mt_aload_n dX4_below_0 rfl rfl ?_
    refine mt_iload_n dX4_below_1 rfl ?_
    refine mt_callS (N := mX4_isRow) (Rc := rX4_isRow) (As := [.int row]) (st := [.ref 27]) dX4_below_2 (kX4_isRow hl) sX4_isRow mw_1083 rfl (Nat.le_of_ble_eq_true rfl) ⟨⟨Nat.le_of_ble_eq_true rfl, Nat.le_of_ble_eq_true rfl⟩, Nat.le_of_ble_eq_true rfl, Nat.le_of_ble_eq_true rfl⟩ (fun v4 h5 n6 c7 => ?_) (fun _ _ _ hx => hx.elim)
    obtain ⟨c7a, c7b, c7c⟩ := c7
    rw [show (inN 4 row).isSome = false from by rw [hq2]; rfl] at c7a
    rw [c7a, c7b, c7c]
    show mT _ _ _ _ 5 [.ref 27, .int row, .int key] [.int (nI 0), .ref 27] _ _ _ _
    refine mt_iload_n dX4_below_5 rfl ?_
    refine mt_ldc (v := (-99999)) dX4_below_6 mw_1113 ?_
    refine mt_ldc (v := nI 99999) dX4_below_8 mw_1114 ?_
    refine mt_callS (N := mX4_isIn) (Rc := rX4_isIn) (As := [.int key, .int (-99999), .int (nI 99999)]) (st := [.int (nI 0), .ref 27]) dX4_below_10 (kX4_isIn hl) sX4_isIn mw_1086 rfl (Nat.le_of_ble_eq_true rfl) ⟨⟨Nat.le_of_ble_eq_true rfl, Nat.le_of_ble_eq_true rfl⟩, Nat.le_of_ble_eq_true rfl, Nat.le_of_ble_eq_true rfl⟩ (fun v8 h9 n10 c11 => ?_) (fun _ _ _ hx => hx.elim)
    obtain ⟨c11a, c11b, c11c⟩ := c11
    rw [c11a, c11b, c11c]
    show mT _ _ _ _ 13 [.ref 27, .int row, .int key] [.int (mb (inR key (-99999) (nI 99999))), .int (nI 0), .ref 27] _ _ _ _
    refine mt_callV (N := mX4_isLet) (Rc := rX4_isLet) (As := [.int (nI 0), .int (mb (inR key (-99999) (nI 99999)))]) (st := []) dX4_below_13 (kX4_isLet (t := false) (f := inR key (-99999) (nI 99999)) hl C0) sX4_isLet mw_1092 mKX4 rfl C0 rfl (Nat.le_of_ble_eq_true rfl) ⟨⟨Nat.le_of_ble_eq_true rfl, Nat.le_of_ble_eq_true rfl⟩, Nat.le_of_ble_eq_true rfl, Nat.le_of_ble_eq_true rfl⟩ (fun v12 h13 n14 c15 => ?_) (fun _ _ _ hx => hx.elim)
    obtain ⟨c15a, c15b, c15c, c15d⟩ := c15
    rw [c15a, c15b]
    show mT _ _ _ _ 16 [.ref 27, .int row, .int key] [.int (nI 0)] _ _ _ _
    refine mt_if_eq dX4_below_16 (tgt := 29) rfl (fun q16 => ?_) (fun q16 => ?_)
    · have q16 := (mI_eq0 (by omega)).mp q16
      refine mt_iconst dX4_below_29 (v := nI 0) rfl ?_
      refine mt_ireturn dX4_below_30 rfl rfl (Nat.le_of_ble_eq_true rfl) (Nat.le_of_ble_eq_true rfl) ?_
      exact mOkq.no (k := 1) (S' := S) (by simp only [mp_below, dAt_n (k := 4) (x := row) hq2, if_pos q16]) (by decide) rfl (by omega) c15c (by omega) (mRows.fr (n' := n) HR (by omega) (fun j j1 j2 j3 => c15d (j) (by omega)) (by omega)) (fun j hj => c15d j (by omega))
    · have q16 := (not_congr (mI_eq0 (by omega))).mp q16
      exact absurd q16 (by decide)
  · obtain ⟨hr3, rfl⟩ := inN_of hq2 (by first | decide | omega)
    obtain ⟨⟨ka_17, kb_17, kc_17, kd_17⟩, kf_17, ke_17, kg_17⟩ := AK_1 r3 hr3
    obtain ⟨⟨sa_17, sb_17, sc_17, sd_17⟩, sf_17, se_17, sg_17⟩ := AS_1 r3 hr3
    have kn_17 := NE_1 r3 r3 hr3 hr3
    have kl_17 := LE_1 r3 hr3
    have km_17 := rroom_le (r := r3)
    rcases hk18 : keyOk key with _ | _
    · refine mt_aload_n dX4_below_0 rfl rfl ?_
      refine mt_iload_n dX4_below_1 rfl ?_
      refine mt_callS (N := mX4_isRow) (Rc := rX4_isRow) (As := [.int (nI r3)]) (st := [.ref 27]) dX4_below_2 (kX4_isRow hl) sX4_isRow mw_1083 rfl (Nat.le_of_ble_eq_true rfl) ⟨⟨Nat.le_of_ble_eq_true rfl, Nat.le_of_ble_eq_true rfl⟩, Nat.le_of_ble_eq_true rfl, Nat.le_of_ble_eq_true rfl⟩ (fun v19 h20 n21 c22 => ?_) (fun _ _ _ hx => hx.elim)
      obtain ⟨c22a, c22b, c22c⟩ := c22
      rw [show (inN 4 (nI r3)).isSome = true from by rw [inN_some hr3 (by decide)]; rfl] at c22a
      rw [c22a, c22b, c22c]
      show mT _ _ _ _ 5 [.ref 27, .int (nI r3), .int key] [.int (nI 1), .ref 27] _ _ _ _
      refine mt_iload_n dX4_below_5 rfl ?_
      refine mt_ldc (v := (-99999)) dX4_below_6 mw_1113 ?_
      refine mt_ldc (v := nI 99999) dX4_below_8 mw_1114 ?_
      refine mt_callS (N := mX4_isIn) (Rc := rX4_isIn) (As := [.int key, .int (-99999), .int (nI 99999)]) (st := [.int (nI 1), .ref 27]) dX4_below_10 (kX4_isIn hl) sX4_isIn mw_1086 rfl (Nat.le_of_ble_eq_true rfl) ⟨⟨Nat.le_of_ble_eq_true rfl, Nat.le_of_ble_eq_true rfl⟩, Nat.le_of_ble_eq_true rfl, Nat.le_of_ble_eq_true rfl⟩ (fun v23 h24 n25 c26 => ?_) (fun _ _ _ hx => hx.elim)
      obtain ⟨c26a, c26b, c26c⟩ := c26
      rw [show inR key (-99999) (nI 99999) = false from hk18] at c26a
      rw [c26a, c26b, c26c]
      show mT _ _ _ _ 13 [.ref 27, .int (nI r3), .int key] [.int (nI 0), .int (nI 1), .ref 27] _ _ _ _
      refine mt_callV (N := mX4_isLet) (Rc := rX4_isLet) (As := [.int (nI 1), .int (nI 0)]) (st := []) dX4_below_13 (kX4_isLet (t := true) (f := false) hl C0) sX4_isLet mw_1092 mKX4 rfl C0 rfl (Nat.le_of_ble_eq_true rfl) ⟨⟨Nat.le_of_ble_eq_true rfl, Nat.le_of_ble_eq_true rfl⟩, Nat.le_of_ble_eq_true rfl, Nat.le_of_ble_eq_true rfl⟩ (fun v27 h28 n29 c30 => ?_) (fun _ _ _ hx => hx.elim)
      obtain ⟨c30a, c30b, c30c, c30d⟩ := c30
      rw [c30a, c30b]
      show mT _ _ _ _ 16 [.ref 27, .int (nI r3), .int key] [.int (nI 0)] _ _ _ _
      refine mt_if_eq dX4_below_16 (tgt := 29) rfl (fun q31 => ?_) (fun q31 => ?_)
      · have q31 := (mI_eq0 (by omega)).mp q31
        refine mt_iconst dX4_below_29 (v := nI 0) rfl ?_
        refine mt_ireturn dX4_below_30 rfl rfl (Nat.le_of_ble_eq_true rfl) (Nat.le_of_ble_eq_true rfl) ?_
        exact mOkq.no (k := 2) (S' := S) (by simp only [mp_below, dAt_s (k := 4) hr3 (by first | decide | omega), dFit_n hk18, if_pos q31]) (by decide) rfl (by omega) c30c (by omega) (mRows.fr (n' := n) HR (by omega) (fun j j1 j2 j3 => c30d (j) (by omega)) (by omega)) (fun j hj => c30d j (by omega))
      · have q31 := (not_congr (mI_eq0 (by omega))).mp q31
        exact absurd q31 (by decide)
    · refine mt_aload_n dX4_below_0 rfl rfl ?_
      refine mt_iload_n dX4_below_1 rfl ?_
      refine mt_callS (N := mX4_isRow) (Rc := rX4_isRow) (As := [.int (nI r3)]) (st := [.ref 27]) dX4_below_2 (kX4_isRow hl) sX4_isRow mw_1083 rfl (Nat.le_of_ble_eq_true rfl) ⟨⟨Nat.le_of_ble_eq_true rfl, Nat.le_of_ble_eq_true rfl⟩, Nat.le_of_ble_eq_true rfl, Nat.le_of_ble_eq_true rfl⟩ (fun v32 h33 n34 c35 => ?_) (fun _ _ _ hx => hx.elim)
      obtain ⟨c35a, c35b, c35c⟩ := c35
      rw [show (inN 4 (nI r3)).isSome = true from by rw [inN_some hr3 (by decide)]; rfl] at c35a
      rw [c35a, c35b, c35c]
      show mT _ _ _ _ 5 [.ref 27, .int (nI r3), .int key] [.int (nI 1), .ref 27] _ _ _ _
      refine mt_iload_n dX4_below_5 rfl ?_
      refine mt_ldc (v := (-99999)) dX4_below_6 mw_1113 ?_
      refine mt_ldc (v := nI 99999) dX4_below_8 mw_1114 ?_
      refine mt_callS (N := mX4_isIn) (Rc := rX4_isIn) (As := [.int key, .int (-99999), .int (nI 99999)]) (st := [.int (nI 1), .ref 27]) dX4_below_10 (kX4_isIn hl) sX4_isIn mw_1086 rfl (Nat.le_of_ble_eq_true rfl) ⟨⟨Nat.le_of_ble_eq_true rfl, Nat.le_of_ble_eq_true rfl⟩, Nat.le_of_ble_eq_true rfl, Nat.le_of_ble_eq_true rfl⟩ (fun v36 h37 n38 c39 => ?_) (fun _ _ _ hx => hx.elim)
      obtain ⟨c39a, c39b, c39c⟩ := c39
      rw [show inR key (-99999) (nI 99999) = true from hk18] at c39a
      rw [c39a, c39b, c39c]
      show mT _ _ _ _ 13 [.ref 27, .int (nI r3), .int key] [.int (nI 1), .int (nI 1), .ref 27] _ _ _ _
      refine mt_callV (N := mX4_isLet) (Rc := rX4_isLet) (As := [.int (nI 1), .int (nI 1)]) (st := []) dX4_below_13 (kX4_isLet (t := true) (f := true) hl C0) sX4_isLet mw_1092 mKX4 rfl C0 rfl (Nat.le_of_ble_eq_true rfl) ⟨⟨Nat.le_of_ble_eq_true rfl, Nat.le_of_ble_eq_true rfl⟩, Nat.le_of_ble_eq_true rfl, Nat.le_of_ble_eq_true rfl⟩ (fun v40 h41 n42 c43 => ?_) (fun _ _ _ hx => hx.elim)
      obtain ⟨c43a, c43b, c43c, c43d⟩ := c43
      rw [c43a, c43b]
      show mT _ _ _ _ 16 [.ref 27, .int (nI r3), .int key] [.int (nI 1)] _ _ _ _
      refine mt_if_eq dX4_below_16 (tgt := 29) rfl (fun q44 => ?_) (fun q44 => ?_)
      · have q44 := (mI_eq0 (by omega)).mp q44
        exact absurd q44 (by decide)
      · have q44 := (not_congr (mI_eq0 (by omega))).mp q44
        refine mt_aload_n dX4_below_19 rfl rfl ?_
        refine mt_iload_n dX4_below_20 rfl ?_
        refine mt_iload_n dX4_below_21 rfl ?_
        refine mt_iconst dX4_below_22 (v := -1) rfl ?_
        refine mt_callV (N := mX4_often) (Rc := rX4_often) (As := [.int (nI r3), .int key, .int (-1)]) (st := []) dX4_below_23 (kX4_often hl c43c (mRows.fr (n' := n) HR (by omega) (fun j j1 j2 j3 => c43d (j) (by omega)) (by omega)) (by omega)) sX4_often mw_1299 mKX4 rfl c43c rfl (Nat.le_of_ble_eq_true rfl) ⟨⟨Nat.le_of_ble_eq_true rfl, Nat.le_of_ble_eq_true rfl⟩, Nat.le_of_ble_eq_true rfl, Nat.le_of_ble_eq_true rfl⟩ (fun v45 h46 n47 c48 => ?_) (fun _ _ _ hx => hx.elim)
        obtain ⟨c48a, c48b, c48c⟩ := c48
        rw [c48a, c48b, c48c]
        show mT _ _ _ _ 26 [.ref 27, .int (nI r3), .int key] [.int (mq_often (S.1 r3) key (-1))] _ _ _ _
        refine mt_goto dX4_below_26 (tgt := 30) rfl ?_
        refine mt_ireturn dX4_below_30 rfl rfl (Nat.le_of_ble_eq_true rfl) (Nat.le_of_ble_eq_true rfl) ?_
        exact mOkq.of (x := .int (mq_often (S.1 r3) key (-1))) (S' := ((S).1, S.2.1, S.2.2.1, S.2.2.2.1, S.2.2.2.2)) (by simp only [mp_below, dAt_s (k := 4) hr3 (by first | decide | omega), dFit_s hk18, if_neg q44] <;> first | rfl | simp_all) rfl (by omega) c43c (by omega) (mRows.fr (n' := n) HR (by omega) (fun j j1 j2 j3 => c43d (j) (by omega)) (by omega)) (fun j hj => c43d j (by omega))
def mp_right (S : cS) (row : Int32) : Nat × Value × cS := dAt S 4 row fun r => (0, .int (mq_pairs (S.1 r) (-1)), S)
abbrev rX4_right : Room := { frames := 2, cells := 0, slots := 0, locals := 46 }
set_option maxRecDepth 100000 in
set_option maxHeartbeats 2000000 in
theorem kX4_right {l : Launch} (hl : l.stackTraces = false) {h : mH} {n : Nat} {S : cS} {th : Int32} {row : Int32} (C : mAt h n S th) : mC l mX4_right rX4_right [.ref 27, .int row] h n (mOkq (mp_right S row) (.int (nI 0)) h n) (mNX) := by
  obtain ⟨C0, h39, kx, sx, HR⟩ := id C
  obtain ⟨⟨gk_1, G28_1, GK_1⟩, ⟨gs_1, G33_1, GS_1⟩, AK_1, AS_1, NE_1, NQ_1, LE_1⟩ := id HR
  refine mm_enter hl (by decide +kernel) rfl rfl rfl (Nat.le_of_ble_eq_true rfl) ?_
  show mT _ _ _ _ 0 [.ref 27, .int row] [] _ _ 0 0
  rcases hq2 : inN 4 row with _ | r3
  · refine mt_aload_n dX4_right_0 rfl rfl ?_
    refine mt_iload_n dX4_right_1 rfl ?_
    refine mt_callS (N := mX4_isRow) (Rc := rX4_isRow) (As := [.int row]) (st := [.ref 27]) dX4_right_2 (kX4_isRow hl) sX4_isRow mw_1083 rfl (Nat.le_of_ble_eq_true rfl) ⟨⟨Nat.le_of_ble_eq_true rfl, Nat.le_of_ble_eq_true rfl⟩, Nat.le_of_ble_eq_true rfl, Nat.le_of_ble_eq_true rfl⟩ (fun v4 h5 n6 c7 => ?_) (fun _ _ _ hx => hx.elim)
    obtain ⟨c7a, c7b, c7c⟩ := c7
    rw [show (inN 4 row).isSome = false from by rw [hq2]; rfl] at c7a
    rw [c7a, c7b, c7c]
    show mT _ _ _ _ 5 [.ref 27, .int row] [.int (nI 0), .ref 27] _ _ _ _
    refine mt_iconst dX4_right_5 (v := nI 1) rfl ?_
    refine mt_callV (N := mX4_isLet) (Rc := rX4_isLet) (As := [.int (nI 0), .int (nI 1)]) (st := []) dX4_right_6 (kX4_isLet (t := false) (f := true) hl C0) sX4_isLet mw_1092 mKX4 rfl C0 rfl (Nat.le_of_ble_eq_true rfl) ⟨⟨Nat.le_of_ble_eq_true rfl, Nat.le_of_ble_eq_true rfl⟩, Nat.le_of_ble_eq_true rfl, Nat.le_of_ble_eq_true rfl⟩ (fun v8 h9 n10 c11 => ?_) (fun _ _ _ hx => hx.elim)
    obtain ⟨c11a, c11b, c11c, c11d⟩ := c11
    rw [c11a, c11b]
    show mT _ _ _ _ 9 [.ref 27, .int row] [.int (nI 0)] _ _ _ _
    refine mt_if_eq dX4_right_9 (tgt := 21) rfl (fun q12 => ?_) (fun q12 => ?_)
    · have q12 := (mI_eq0 (by omega)).mp q12
      refine mt_iconst dX4_right_21 (v := nI 0) rfl ?_
      refine mt_ireturn dX4_right_22 rfl rfl (Nat.le_of_ble_eq_true rfl) (Nat.le_of_ble_eq_true rfl) ?_
      exact mOkq.no (k := 1) (S' := S) (by simp only [mp_right, dAt_n (k := 4) (x := row) hq2, if_pos q12]) (by decide) rfl (by omega) c11c (by omega) (mRows.fr (n' := n) HR (by omega) (fun j j1 j2 j3 => c11d (j) (by omega)) (by omega)) (fun j hj => c11d j (by omega))
    · have q12 := (not_congr (mI_eq0 (by omega))).mp q12
      exact absurd q12 (by decide)
  · obtain ⟨hr3, rfl⟩ := inN_of hq2 (by first | decide | omega)
    obtain ⟨⟨ka_13, kb_13, kc_13, kd_13⟩, kf_13, ke_13, kg_13⟩ := AK_1 r3 hr3
    obtain ⟨⟨sa_13, sb_13, sc_13, sd_13⟩, sf_13, se_13, sg_13⟩ := AS_1 r3 hr3
    have kn_13 := NE_1 r3 r3 hr3 hr3
    have kl_13 := LE_1 r3 hr3
    have km_13 := rroom_le (r := r3)
    refine mt_aload_n dX4_right_0 rfl rfl ?_
    refine mt_iload_n dX4_right_1 rfl ?_
    refine mt_callS (N := mX4_isRow) (Rc := rX4_isRow) (As := [.int (nI r3)]) (st := [.ref 27]) dX4_right_2 (kX4_isRow hl) sX4_isRow mw_1083 rfl (Nat.le_of_ble_eq_true rfl) ⟨⟨Nat.le_of_ble_eq_true rfl, Nat.le_of_ble_eq_true rfl⟩, Nat.le_of_ble_eq_true rfl, Nat.le_of_ble_eq_true rfl⟩ (fun v14 h15 n16 c17 => ?_) (fun _ _ _ hx => hx.elim)
    obtain ⟨c17a, c17b, c17c⟩ := c17
    rw [show (inN 4 (nI r3)).isSome = true from by rw [inN_some hr3 (by decide)]; rfl] at c17a
    rw [c17a, c17b, c17c]
    show mT _ _ _ _ 5 [.ref 27, .int (nI r3)] [.int (nI 1), .ref 27] _ _ _ _
    refine mt_iconst dX4_right_5 (v := nI 1) rfl ?_
    refine mt_callV (N := mX4_isLet) (Rc := rX4_isLet) (As := [.int (nI 1), .int (nI 1)]) (st := []) dX4_right_6 (kX4_isLet (t := true) (f := true) hl C0) sX4_isLet mw_1092 mKX4 rfl C0 rfl (Nat.le_of_ble_eq_true rfl) ⟨⟨Nat.le_of_ble_eq_true rfl, Nat.le_of_ble_eq_true rfl⟩, Nat.le_of_ble_eq_true rfl, Nat.le_of_ble_eq_true rfl⟩ (fun v18 h19 n20 c21 => ?_) (fun _ _ _ hx => hx.elim)
    obtain ⟨c21a, c21b, c21c, c21d⟩ := c21
    rw [c21a, c21b]
    show mT _ _ _ _ 9 [.ref 27, .int (nI r3)] [.int (nI 1)] _ _ _ _
    refine mt_if_eq dX4_right_9 (tgt := 21) rfl (fun q22 => ?_) (fun q22 => ?_)
    · have q22 := (mI_eq0 (by omega)).mp q22
      exact absurd q22 (by decide)
    · have q22 := (not_congr (mI_eq0 (by omega))).mp q22
      refine mt_aload_n dX4_right_12 rfl rfl ?_
      refine mt_iload_n dX4_right_13 rfl ?_
      refine mt_iconst dX4_right_14 (v := -1) rfl ?_
      refine mt_callV (N := mX4_pairs) (Rc := rX4_pairs) (As := [.int (nI r3), .int (-1)]) (st := []) dX4_right_15 (kX4_pairs hl c21c (mRows.fr (n' := n) HR (by omega) (fun j j1 j2 j3 => c21d (j) (by omega)) (by omega)) (by omega)) sX4_pairs mw_1146 mKX4 rfl c21c rfl (Nat.le_of_ble_eq_true rfl) ⟨⟨Nat.le_of_ble_eq_true rfl, Nat.le_of_ble_eq_true rfl⟩, Nat.le_of_ble_eq_true rfl, Nat.le_of_ble_eq_true rfl⟩ (fun v23 h24 n25 c26 => ?_) (fun _ _ _ hx => hx.elim)
      obtain ⟨c26a, c26b, c26c⟩ := c26
      rw [c26a, c26b, c26c]
      show mT _ _ _ _ 18 [.ref 27, .int (nI r3)] [.int (mq_pairs (S.1 r3) (-1))] _ _ _ _
      refine mt_goto dX4_right_18 (tgt := 22) rfl ?_
      refine mt_ireturn dX4_right_22 rfl rfl (Nat.le_of_ble_eq_true rfl) (Nat.le_of_ble_eq_true rfl) ?_
      exact mOkq.of (x := .int (mq_pairs (S.1 r3) (-1))) (S' := ((S).1, S.2.1, S.2.2.1, S.2.2.2.1, S.2.2.2.2)) (by simp only [mp_right, dAt_s (k := 4) hr3 (by first | decide | omega), if_neg q22] <;> first | rfl | simp_all) rfl (by omega) c21c (by omega) (mRows.fr (n' := n) HR (by omega) (fun j j1 j2 j3 => c21d (j) (by omega)) (by omega)) (fun j hj => c21d j (by omega))
def mp_ties (S : cS) (row : Int32) : Nat × Value × cS := dAt S 4 row fun r => (0, .int (mq_pairs (S.1 r) (nI 0)), S)
abbrev rX4_ties : Room := { frames := 2, cells := 0, slots := 0, locals := 46 }
set_option maxRecDepth 100000 in
set_option maxHeartbeats 2000000 in
theorem kX4_ties {l : Launch} (hl : l.stackTraces = false) {h : mH} {n : Nat} {S : cS} {th : Int32} {row : Int32} (C : mAt h n S th) : mC l mX4_ties rX4_ties [.ref 27, .int row] h n (mOkq (mp_ties S row) (.int (nI 0)) h n) (mNX) := by
  obtain ⟨C0, h39, kx, sx, HR⟩ := id C
  obtain ⟨⟨gk_1, G28_1, GK_1⟩, ⟨gs_1, G33_1, GS_1⟩, AK_1, AS_1, NE_1, NQ_1, LE_1⟩ := id HR
  refine mm_enter hl (by decide +kernel) rfl rfl rfl (Nat.le_of_ble_eq_true rfl) ?_
  show mT _ _ _ _ 0 [.ref 27, .int row] [] _ _ 0 0
  rcases hq2 : inN 4 row with _ | r3
  · refine mt_aload_n dX4_ties_0 rfl rfl ?_
    refine mt_iload_n dX4_ties_1 rfl ?_
    refine mt_callS (N := mX4_isRow) (Rc := rX4_isRow) (As := [.int row]) (st := [.ref 27]) dX4_ties_2 (kX4_isRow hl) sX4_isRow mw_1083 rfl (Nat.le_of_ble_eq_true rfl) ⟨⟨Nat.le_of_ble_eq_true rfl, Nat.le_of_ble_eq_true rfl⟩, Nat.le_of_ble_eq_true rfl, Nat.le_of_ble_eq_true rfl⟩ (fun v4 h5 n6 c7 => ?_) (fun _ _ _ hx => hx.elim)
    obtain ⟨c7a, c7b, c7c⟩ := c7
    rw [show (inN 4 row).isSome = false from by rw [hq2]; rfl] at c7a
    rw [c7a, c7b, c7c]
    show mT _ _ _ _ 5 [.ref 27, .int row] [.int (nI 0), .ref 27] _ _ _ _
    refine mt_iconst dX4_ties_5 (v := nI 1) rfl ?_
    refine mt_callV (N := mX4_isLet) (Rc := rX4_isLet) (As := [.int (nI 0), .int (nI 1)]) (st := []) dX4_ties_6 (kX4_isLet (t := false) (f := true) hl C0) sX4_isLet mw_1092 mKX4 rfl C0 rfl (Nat.le_of_ble_eq_true rfl) ⟨⟨Nat.le_of_ble_eq_true rfl, Nat.le_of_ble_eq_true rfl⟩, Nat.le_of_ble_eq_true rfl, Nat.le_of_ble_eq_true rfl⟩ (fun v8 h9 n10 c11 => ?_) (fun _ _ _ hx => hx.elim)
    obtain ⟨c11a, c11b, c11c, c11d⟩ := c11
    rw [c11a, c11b]
    show mT _ _ _ _ 9 [.ref 27, .int row] [.int (nI 0)] _ _ _ _
    refine mt_if_eq dX4_ties_9 (tgt := 21) rfl (fun q12 => ?_) (fun q12 => ?_)
    · have q12 := (mI_eq0 (by omega)).mp q12
      refine mt_iconst dX4_ties_21 (v := nI 0) rfl ?_
      refine mt_ireturn dX4_ties_22 rfl rfl (Nat.le_of_ble_eq_true rfl) (Nat.le_of_ble_eq_true rfl) ?_
      exact mOkq.no (k := 1) (S' := S) (by simp only [mp_ties, dAt_n (k := 4) (x := row) hq2, if_pos q12]) (by decide) rfl (by omega) c11c (by omega) (mRows.fr (n' := n) HR (by omega) (fun j j1 j2 j3 => c11d (j) (by omega)) (by omega)) (fun j hj => c11d j (by omega))
    · have q12 := (not_congr (mI_eq0 (by omega))).mp q12
      exact absurd q12 (by decide)
  · obtain ⟨hr3, rfl⟩ := inN_of hq2 (by first | decide | omega)
    obtain ⟨⟨ka_13, kb_13, kc_13, kd_13⟩, kf_13, ke_13, kg_13⟩ := AK_1 r3 hr3
    obtain ⟨⟨sa_13, sb_13, sc_13, sd_13⟩, sf_13, se_13, sg_13⟩ := AS_1 r3 hr3
    have kn_13 := NE_1 r3 r3 hr3 hr3
    have kl_13 := LE_1 r3 hr3
    have km_13 := rroom_le (r := r3)
    refine mt_aload_n dX4_ties_0 rfl rfl ?_
    refine mt_iload_n dX4_ties_1 rfl ?_
    refine mt_callS (N := mX4_isRow) (Rc := rX4_isRow) (As := [.int (nI r3)]) (st := [.ref 27]) dX4_ties_2 (kX4_isRow hl) sX4_isRow mw_1083 rfl (Nat.le_of_ble_eq_true rfl) ⟨⟨Nat.le_of_ble_eq_true rfl, Nat.le_of_ble_eq_true rfl⟩, Nat.le_of_ble_eq_true rfl, Nat.le_of_ble_eq_true rfl⟩ (fun v14 h15 n16 c17 => ?_) (fun _ _ _ hx => hx.elim)
    obtain ⟨c17a, c17b, c17c⟩ := c17
    rw [show (inN 4 (nI r3)).isSome = true from by rw [inN_some hr3 (by decide)]; rfl] at c17a
    rw [c17a, c17b, c17c]
    show mT _ _ _ _ 5 [.ref 27, .int (nI r3)] [.int (nI 1), .ref 27] _ _ _ _
    refine mt_iconst dX4_ties_5 (v := nI 1) rfl ?_
    refine mt_callV (N := mX4_isLet) (Rc := rX4_isLet) (As := [.int (nI 1), .int (nI 1)]) (st := []) dX4_ties_6 (kX4_isLet (t := true) (f := true) hl C0) sX4_isLet mw_1092 mKX4 rfl C0 rfl (Nat.le_of_ble_eq_true rfl) ⟨⟨Nat.le_of_ble_eq_true rfl, Nat.le_of_ble_eq_true rfl⟩, Nat.le_of_ble_eq_true rfl, Nat.le_of_ble_eq_true rfl⟩ (fun v18 h19 n20 c21 => ?_) (fun _ _ _ hx => hx.elim)
    obtain ⟨c21a, c21b, c21c, c21d⟩ := c21
    rw [c21a, c21b]
    show mT _ _ _ _ 9 [.ref 27, .int (nI r3)] [.int (nI 1)] _ _ _ _
    refine mt_if_eq dX4_ties_9 (tgt := 21) rfl (fun q22 => ?_) (fun q22 => ?_)
    · have q22 := (mI_eq0 (by omega)).mp q22
      exact absurd q22 (by decide)
    · have q22 := (not_congr (mI_eq0 (by omega))).mp q22
      refine mt_aload_n dX4_ties_12 rfl rfl ?_
      refine mt_iload_n dX4_ties_13 rfl ?_
      refine mt_iconst dX4_ties_14 (v := nI 0) rfl ?_
      refine mt_callV (N := mX4_pairs) (Rc := rX4_pairs) (As := [.int (nI r3), .int (nI 0)]) (st := []) dX4_ties_15 (kX4_pairs hl c21c (mRows.fr (n' := n) HR (by omega) (fun j j1 j2 j3 => c21d (j) (by omega)) (by omega)) (by omega)) sX4_pairs mw_1146 mKX4 rfl c21c rfl (Nat.le_of_ble_eq_true rfl) ⟨⟨Nat.le_of_ble_eq_true rfl, Nat.le_of_ble_eq_true rfl⟩, Nat.le_of_ble_eq_true rfl, Nat.le_of_ble_eq_true rfl⟩ (fun v23 h24 n25 c26 => ?_) (fun _ _ _ hx => hx.elim)
      obtain ⟨c26a, c26b, c26c⟩ := c26
      rw [c26a, c26b, c26c]
      show mT _ _ _ _ 18 [.ref 27, .int (nI r3)] [.int (mq_pairs (S.1 r3) (nI 0))] _ _ _ _
      refine mt_goto dX4_ties_18 (tgt := 22) rfl ?_
      refine mt_ireturn dX4_ties_22 rfl rfl (Nat.le_of_ble_eq_true rfl) (Nat.le_of_ble_eq_true rfl) ?_
      exact mOkq.of (x := .int (mq_pairs (S.1 r3) (nI 0))) (S' := ((S).1, S.2.1, S.2.2.1, S.2.2.2.1, S.2.2.2.2)) (by simp only [mp_ties, dAt_s (k := 4) hr3 (by first | decide | omega), if_neg q22] <;> first | rfl | simp_all) rfl (by omega) c21c (by omega) (mRows.fr (n' := n) HR (by omega) (fun j j1 j2 j3 => c21d (j) (by omega)) (by omega)) (fun j hj => c21d j (by omega))
