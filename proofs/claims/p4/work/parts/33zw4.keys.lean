/-! ===== keys keep in their bounds ===== -/
def kIn (x : Int32) : Prop := -99999 ≤ x.toInt ∧ x.toInt ≤ 99999
def kAll (xs : List mIt) : Prop := ∀ z ∈ xs, kIn z.1
def kOk (S : cS) : Prop := ∀ r, r < 4 → kAll (S.1 r)
theorem kAll.nil : kAll [] := fun z hz => absurd hz (List.not_mem_nil)
theorem kAll.app {xs ys : List mIt} (h1 : kAll xs) (h2 : kAll ys) : kAll (xs ++ ys) := fun z hz => (List.mem_append.mp hz).elim (h1 z) (h2 z)
theorem kAll.one {x y : Int32} (h : kIn x) : kAll [(x, y)] := fun z hz => by
  rw [List.mem_singleton.mp hz]
  exact h
theorem kAll.xks {xs : List mIt} (h : kAll xs) {i : Nat} (hi : i < xs.length) : kIn (xk xs i) := by
  have h1 := h xs[i] (List.getElem_mem hi)
  rw [xk_get hi] at h1
  exact h1
theorem kAll.spans {xs : List mIt} (h : kAll xs) {i e : Nat} : kAll (span xs i e) := fun z hz => h z (List.mem_of_mem_take (List.mem_of_mem_drop hz))
theorem kAll.sets {xs : List mIt} (h : kAll xs) {i : Nat} {x y : Int32} (hx : kIn x) : kAll (xs.set i (x, y)) := fun z hz => by
  rcases List.mem_or_eq_of_mem_set hz with q | q
  · exact h z q
  · rw [q]; exact hx
theorem kAll.swps {xs : List mIt} (h : kAll xs) {i j : Nat} (hi : i < xs.length) (hj : j < xs.length) : kAll (swp xs i j) := (h.sets (h.xks hj)).sets (h.xks hi)
theorem kAll.perm {xs ys : List mIt} (h : kAll xs) (hp : ys.Perm xs) : kAll ys := fun z hz => h z (hp.mem_iff.mp hz)
theorem kAll.rvs {xs : List mIt} (h : kAll xs) : ∀ {d : Nat}, d ≤ xs.length → kAll (rv xs d)
  | 0, _ => kAll.nil
  | d + 1, hd => fun z hz => by
    rcases List.mem_cons.mp hz with q | q
    · rw [q]; exact h.xks (by omega)
    · exact h.rvs (by omega) z q
theorem kAll.bring {xs ys : List mIt} {t ft : Bool} {g : Int32} (h : kAll xs) (hy : kAll ys) : kAll (bringL xs t ft ys g).1 := by
  have w : ∀ (d s : Nat) (p : List mIt × Int32), s + d ≤ xs.length → kAll p.1 → kAll (mlp (stBring xs t ft) d s p).1 := by
    intro d
    induction d with
    | zero => intro s p _ hp; exact hp
    | succ d ih =>
      intro s p hs hp
      refine ih (s + 1) _ (by omega) ?_
      exact hp.app (kAll.one (h.xks (by omega)))
  exact w _ _ _ (by omega) hy
theorem kAll.weaves {xs : List mIt} {m : Nat} (h : kAll xs) : kAll (weave xs m) := (h.spans (i := 0) (e := m)).app (h.spans (i := m) (e := xs.length)) |>.perm (List.merge_perm_append wle)
theorem kp_add {x y : Int32} (h1 : -1000000 ≤ x.toInt ∧ x.toInt ≤ 1000000) (h2 : -1000000 ≤ y.toInt ∧ y.toInt ≤ 1000000) : (x + y).toInt = x.toInt + y.toInt := by
  rw [Int32.toInt_add, Int.bmod_eq_of_le (by omega) (by omega)]
theorem kp_sub {x y : Int32} (h1 : -1000000 ≤ x.toInt ∧ x.toInt ≤ 1000000) (h2 : -1000000 ≤ y.toInt ∧ y.toInt ≤ 1000000) : (x - y).toInt = x.toInt - y.toInt := by
  rw [Int32.toInt_sub, Int.bmod_eq_of_le (by omega) (by omega)]
theorem drk_in {x : Int32} : kIn (drk x) := by
  unfold drk kIn
  have hx := x.toInt_lt
  have hx2 := x.le_toInt
  have e512 : (nI 512).toInt = 512 := by decide
  have t1 := Int.mul_tdiv_add_tmod x.toInt 512
  have t2 : x.toInt.tmod 512 < 512 ∧ -512 < x.toInt.tmod 512 ∧ (x.toInt < 0 → x.toInt.tmod 512 ≤ 0) ∧ (¬ x.toInt < 0 → 0 ≤ x.toInt.tmod 512) := by
    rcases Classical.em (x.toInt < 0) with z | z
    · have u1 := Int.tmod_nonneg (a := -x.toInt) 512 (by omega)
      have u2 := Int.tmod_lt_of_pos (-x.toInt) (b := 512) (by omega)
      rw [Int.neg_tmod] at u1 u2
      omega
    · have u1 := Int.tmod_nonneg (a := x.toInt) 512 (by omega)
      have u2 := Int.tmod_lt_of_pos x.toInt (b := 512) (by omega)
      omega
  have e1 : (x / nI 512).toInt = x.toInt.tdiv 512 := by
    rw [Int32.toInt_div, e512, Int.bmod_eq_of_le (by omega) (by omega)]
  have e2 : (x / nI 512 * nI 512).toInt = x.toInt.tdiv 512 * 512 := by
    rw [Int32.toInt_mul, e1, e512]
    clear e1
    generalize x.toInt.tdiv 512 = u at *
    generalize x.toInt.tmod 512 = v at *
    exact Int.bmod_eq_of_le (by omega) (by omega)
  rw [Int32.toInt_sub, e2, Int.bmod_eq_of_le (by omega) (by omega)]
  omega
theorem pat_in {p k m b : Nat} {a : Int32} (ha : aOk a = true) (hk : k < m) (hm : m ≤ 320) (hb : b < 100) (hb0 : 0 < b) : kIn (patKey p k m a b) := by
  unfold aOk at ha
  rw [Bool.and_eq_true, Bool.not_eq_true', Bool.not_eq_true', decide_eq_false_iff_not, decide_eq_false_iff_not, Int32.lt_iff_toInt_lt, Int32.lt_iff_toInt_lt] at ha
  have e1 : (-999 : Int32).toInt = -999 := by decide
  have e2 : (nI 999).toInt = 999 := by decide
  rw [e1, e2] at ha
  have hkb : k * b ≤ 320 * 100 := Nat.mul_le_mul (by omega) (by omega)
  have hmb : b * min k (m - 1 - k) ≤ 100 * 320 := Nat.mul_le_mul (by omega) (by omega)
  have hmod : k % b < b := Nat.mod_lt _ hb0
  have t1 := nI_toInt (show k * b < 2 ^ 31 by omega)
  have t2 := nI_toInt (show k % b < 2 ^ 31 by omega)
  have t3 := nI_toInt (show b < 2 ^ 31 by omega)
  have t4 := nI_toInt (show b * min k (m - 1 - k) < 2 ^ 31 by omega)
  have t5 := nI_toInt (show k / 2 < 2 ^ 31 by omega)
  have t6 : (nI 1).toInt = 1 := by decide
  unfold kIn
  have hcase : patKey p k m a b = a ∨ patKey p k m a b = a + nI (k * b) ∨ patKey p k m a b = a - nI (k * b) ∨ patKey p k m a b = a + nI (k % b) ∨ patKey p k m a b = a + nI b - nI 1 - nI (k % b) ∨ patKey p k m a b = a + nI (b * min k (m - 1 - k)) ∨ patKey p k m a b = a + nI (k / 2) ∨ patKey p k m a b = a + nI b - nI (k / 2) := by
    unfold patKey
    split
    · exact Or.inr (Or.inl rfl)
    · exact Or.inr (Or.inr (Or.inl rfl))
    · exact Or.inr (Or.inr (Or.inr (Or.inl rfl)))
    · split
      · exact Or.inr (Or.inr (Or.inr (Or.inl rfl)))
      · exact Or.inr (Or.inr (Or.inr (Or.inr (Or.inl rfl))))
    · exact Or.inr (Or.inr (Or.inr (Or.inr (Or.inr (Or.inl rfl)))))
    · split
      · exact Or.inr (Or.inr (Or.inr (Or.inr (Or.inr (Or.inr (Or.inl rfl))))))
      · exact Or.inr (Or.inr (Or.inr (Or.inr (Or.inr (Or.inr (Or.inr rfl))))))
    · exact Or.inl rfl
  have s1 := kp_add (x := a) (y := nI b) (by omega) (by omega)
  rcases hcase with q | q | q | q | q | q | q | q <;> rw [q]
  · omega
  · rw [kp_add (by omega) (by omega)]; omega
  · rw [kp_sub (by omega) (by omega)]; omega
  · rw [kp_add (by omega) (by omega)]; omega
  · have s2 := kp_sub (x := a + nI b) (y := nI 1) (by omega) (by omega)
    rw [kp_sub (by omega) (by omega)]; omega
  · rw [kp_add (by omega) (by omega)]; omega
  · rw [kp_add (by omega) (by omega)]; omega
  · rw [kp_sub (by omega) (by omega)]; omega
theorem kAll.fill {p m b : Nat} {a g : Int32} {bl : Bool} (ha : aOk a = true) (hm : m ≤ 320) (hb : b < 100) (hb0 : 0 < b) : kAll (fillL p m a b bl g).1 := by
  unfold fillL
  split
  · have w : ∀ (d s : Nat) (q : List mIt × Int32 × Int32), kAll q.1 → kAll (mlp (stDrw bl) d s q).1 := by
      intro d
      induction d with
      | zero => intro s q hq; exact hq
      | succ d ih => intro s q hq; exact ih (s + 1) _ (hq.app (kAll.one drk_in))
    exact w _ _ _ kAll.nil
  · have w : ∀ (d s : Nat) (q : List mIt × Int32), s + d ≤ m → kAll q.1 → kAll (mlp (stPat p m a b bl) d s q).1 := by
      intro d
      induction d with
      | zero => intro s q _ hq; exact hq
      | succ d ih => intro s q hs hq; exact ih (s + 1) _ (by omega) (hq.app (kAll.one (pat_in ha (by omega) hm hb hb0)))
    exact w _ _ _ (by omega) kAll.nil
/-- the state that comes of a call keeps the bounds -/
def kP (S : cS) (o : Nat × Value × cS) : Prop := o.1 = 0 → kOk o.2.2
theorem stOf_k {S : cS} {o : Nat × Value × cS} (K : kOk S) (h : kP S o) : kOk (stOf S o) := by
  unfold stOf
  split
  · exact h (by assumption)
  · exact K
theorem dAt_k {S : cS} {k : Nat} {x : Int32} {f : Nat → Nat × Value × cS} (hk : k < 2 ^ 31) (h : ∀ r, r < k → kP S (f r)) : kP S (dAt S k x f) := by
  rcases q : inN k x with _ | j
  · rw [dAt_n q]; exact fun z => by cases z
  · obtain ⟨hj, rfl⟩ := inN_of q hk
    rw [dAt_s hj hk]
    exact h j hj
theorem dArg_k {S : cS} {k : Nat} {x : Int32} {f : Nat → Nat × Value × cS} (hk : k < 2 ^ 31) (h : ∀ r, r < k → kP S (f r)) : kP S (dArg S k x f) := by
  rcases q : inN k x with _ | j
  · rw [dArg_n q]; exact fun z => by cases z
  · obtain ⟨hj, rfl⟩ := inN_of q hk
    rw [dArg_s hj hk]
    exact h j hj
theorem dFit_k {S : cS} {b : Bool} {o : Nat × Value × cS} (h : b = true → kP S o) : kP S (dFit S b o) := by
  cases b with
  | true => exact h rfl
  | false => exact fun z => by cases z
theorem dB_k {S : cS} {x : Int32} {f : Nat → Nat × Value × cS} (h : ∀ j, j < 100 → 0 < j → kP S (f j)) : kP S (dB S x f) := by
  by_cases q : x < 1 ∨ nI 99 < x
  · rw [dB_n q]; exact fun z => by cases z
  · obtain ⟨p, h1, h2, rfl⟩ := dB_in (fun z => q (Or.inl z)) (fun z => q (Or.inr z))
    rw [dB_s h1 h2]
    exact h p h1 h2
theorem dKeep_k {S : cS} {L : Nat} {x y : Int32} {f : Nat → Nat → Nat × Value × cS} (h : ∀ i j, kP S (f i j)) : kP S (dKeep S L x y f) := by
  unfold dKeep
  split
  · exact fun z => by cases z
  · exact h _ _
theorem kOk.set {S : cS} (K : kOk S) {r : Nat} {ys : List mIt} (h : kAll ys) : kOk (cSet S r ys) := fun q hq => by
  show kAll (if q = r then ys else S.1 q)
  split
  · exact h
  · exact K q hq
theorem kOk.set2 {S : cS} (K : kOk S) {r : Nat} {ys : List mIt} {v : Value} (h : kAll ys) : kP S (0, v, cAct (cSet S r ys)) := fun _ => K.set h
theorem kOk.set3 {S : cS} (K : kOk S) {r : Nat} {ys : List mIt} {v : Value} {g : Int32} (h : kAll ys) : kP S (0, v, cAct (cGiv (cSet S r ys) g)) := fun _ => K.set h
theorem key_in {x : Int32} (h : keyOk x = true) : kIn x := by
  unfold keyOk at h
  rw [Bool.and_eq_true, Bool.not_eq_true', Bool.not_eq_true', decide_eq_false_iff_not, decide_eq_false_iff_not, Int32.lt_iff_toInt_lt, Int32.lt_iff_toInt_lt] at h
  have e1 : (-99999 : Int32).toInt = -99999 := by decide
  have e2 : (nI 99999).toInt = 99999 := by decide
  rw [e1, e2] at h
  exact ⟨by omega, by omega⟩
theorem rr_le {r : Nat} : rroom r ≤ 320 := by
  unfold rroom
  split <;> omega
theorem kS_clear {S : cS} {row : Int32} (K : kOk S) : kP S (sp_clear S row) := dAt_k (by decide) (fun r hr => K.set2 kAll.nil)
theorem kS_drop {S : cS} {row place : Int32} (hS : lenOk S) (K : kOk S) : kP S (sp_drop S row place) := dAt_k (by decide) (fun r hr => dAt_k (by have := hS.lt hr; omega) (fun p hp => K.set2 ((K r hr).spans.app (K r hr).spans)))
theorem kS_exchange {S : cS} {row place : Int32} (hS : lenOk S) (K : kOk S) : kP S (sp_exchange S row place) := dAt_k (by decide) (fun r hr => dAt_k (by have := hS.lt hr; omega) (fun p hp => K.set2 ((K r hr).swps (by omega) (by omega))))
theorem kS_swap {S : cS} {row place other : Int32} (hS : lenOk S) (K : kOk S) : kP S (sp_swap S row place other) := dAt_k (by decide) (fun r hr => dAt_k (by have := hS.lt hr; omega) (fun p hp => dAt_k (by have := hS.lt hr; omega) (fun q hq => K.set2 ((K r hr).swps hp hq))))
theorem kS_put {S : cS} {row place key : Int32} (hS : lenOk S) (K : kOk S) : kP S (sp_put S row place key) := dAt_k (by decide) (fun r hr => dAt_k (by have := hS.lt hr; omega) (fun p hp => dFit_k (fun hk => K.set3 ((K r hr).sets (key_in hk)))))
theorem kS_add {S : cS} {row key : Int32} (K : kOk S) : kP S (sp_add S row key) := dAt_k (by decide) (fun r hr => dFit_k (fun hk => by
  split
  · exact fun _ => K
  · exact K.set3 ((K r hr).app (kAll.one (key_in hk)))))
theorem kS_roll {S : cS} {row by_ : Int32} (hS : lenOk S) (K : kOk S) : kP S (sp_roll S row by_) := dAt_k (by decide) (fun r hr => dArg_k (by have := hS.lt hr; omega) (fun p hp => K.set2 ((K r hr).spans.app (K r hr).spans)))
theorem kS_keep {S : cS} {row from_ to : Int32} (K : kOk S) : kP S (sp_keep S row from_ to) := dAt_k (by decide) (fun r hr => dKeep_k (fun p t => K.set2 (K r hr).spans))
theorem kS_sort {S : cS} {row : Int32} (K : kOk S) : kP S (sp_sort S row) := dAt_k (by decide) (fun r hr => K.set2 ((K r hr).perm msort_perm))
theorem kS_turn {S : cS} {row : Int32} (K : kOk S) : kP S (sp_turn S row) := dAt_k (by decide) (fun r hr => K.set2 ((K r hr).rvs (Nat.le_refl _)))
theorem kS_copy {S : cS} {row into : Int32} (K : kOk S) : kP S (sp_copy S row into) := dAt_k (by decide) (fun r hr => dAt_k (by decide) (fun q hq => by
  split
  · exact fun _ => K
  · split
    · exact fun _ => K
    · exact K.set3 ((K r hr).bring kAll.nil)))
theorem kS_join {S : cS} {row other : Int32} (K : kOk S) : kP S (sp_join S row other) := dAt_k (by decide) (fun r hr => dAt_k (by decide) (fun q hq => by
  split
  · exact fun _ => K
  · exact K.set3 ((K q hq).bring (K r hr))))
theorem kS_merge {S : cS} {row other : Int32} (K : kOk S) : kP S (sp_merge S row other) := dAt_k (by decide) (fun r hr => dAt_k (by decide) (fun q hq => by
  split
  · exact fun _ => K
  · split
    · exact fun _ => K
    · split
      · exact fun _ => K
      · exact K.set3 ((K q hq).bring (K r hr)).weaves))
theorem kS_fill {S : cS} {row many pattern a b : Int32} (K : kOk S) : kP S (sp_fill S row many pattern a b) := dAt_k (by decide) (fun r hr => dArg_k (by have := @rr_le r; omega) (fun m hm => dArg_k (by decide) (fun p _ => dFit_k (fun ha => dB_k (fun bn h1 h2 => K.set3 (kAll.fill ha (by have := @rr_le r; omega) h1 h2))))))
theorem kOk_0 : kOk cS0 := fun r _ => kAll.nil
/-! the least and the greatest key -/
theorem end_go {xs : List mIt} (hk : kAll xs) : ∀ (d s : Nat) (x : Int32), s + d = xs.length → 0 < s → kIn x → mlp (enS xs false) d s x = mlp (fun i acc => if i = 0 ∨ xk xs i < acc then xk xs i else acc) d s x ∧ mlp (enS xs true) d s x = mlp (fun i acc => if acc < xk xs i then xk xs i else acc) d s x := by
  intro d
  induction d with
  | zero => intro s x _ _ _; exact ⟨rfl, rfl⟩
  | succ d ih =>
    intro s x h h0 hx
    have hs := hk.xks (show s < xs.length by omega)
    have hne : ¬ x = (-100000) := fun z => by
      have h2 := hx.1
      rw [z] at h2
      exact absurd h2 (by decide)
    constructor
    · show mlp (enS xs false) d (s + 1) (enS xs false s x) = mlp _ d (s + 1) (if s = 0 ∨ xk xs s < x then xk xs s else x)
      have e : enS xs false s x = if s = 0 ∨ xk xs s < x then xk xs s else x := by
        unfold enS
        rw [if_neg hne, if_pos rfl]
        by_cases q : xk xs s < x
        · rw [if_pos q, if_pos (Or.inr q)]
        · rw [if_neg q, if_neg (fun z => z.elim (fun w => by omega) q)]
      rw [e]
      refine (ih (s + 1) _ (by omega) (by omega) ?_).1
      split
      · exact hs
      · exact hx
    · show mlp (enS xs true) d (s + 1) (enS xs true s x) = mlp _ d (s + 1) (if x < xk xs s then xk xs s else x)
      have e : enS xs true s x = if x < xk xs s then xk xs s else x := by
        unfold enS
        rw [if_neg hne, if_neg (by decide)]
      rw [e]
      refine (ih (s + 1) _ (by omega) (by omega) ?_).2
      split
      · exact hs
      · exact hx
theorem end_eq {xs : List mIt} (hk : kAll xs) (b : Bool) : mlp (enS xs b) (xs.length - 0) 0 (-100000) = if b = false then q_leastKey xs else q_greatestKey xs := by
  unfold q_leastKey q_greatestKey
  rcases Nat.eq_zero_or_pos xs.length with e | e
  · rw [e]
    cases b <;> rfl
  · have hs := hk.xks e
    obtain ⟨r1, r2⟩ := end_go hk (xs.length - 1) 1 (xk xs 0) (by omega) (by decide) hs
    rw [show xs.length - 0 = (xs.length - 1) + 1 by omega]
    have e1 : ∀ b, enS xs b 0 (-100000) = xk xs 0 := fun b => by unfold enS; exact if_pos rfl
    cases b with
    | false =>
      show mlp _ (xs.length - 1) 1 (enS xs false 0 (-100000)) = mlp _ (xs.length - 1) 1 (if 0 = 0 ∨ xk xs 0 < -100000 then xk xs 0 else -100000)
      rw [e1, if_pos (Or.inl rfl)]
      exact r1
    | true =>
      show mlp _ (xs.length - 1) 1 (enS xs true 0 (-100000)) = mlp _ (xs.length - 1) 1 (if -100000 < xk xs 0 then xk xs 0 else -100000)
      have e3 : (-100000 : Int32).toInt = -100000 := by decide
      rw [e1, if_pos (show (-100000 : Int32) < xk xs 0 by rw [Int32.lt_iff_toInt_lt, e3]; have := hs.1; omega)]
      exact r2
theorem eqV_end {S : cS} {row : Int32} {isGreatest : Bool} (K : kOk S) : vEq (sp_end S row isGreatest) (mp_end S row isGreatest) := dAt_v (by decide) (fun r hr => vEq.of (congrArg Value.int (end_eq (K r hr) isGreatest)))
