/-! ===== acts: the class's next state is the reference's ===== -/
theorem it_get {xs : List mIt} {i : Nat} : it xs i = xs.getD i (0, 0) := rfl
theorem xs_ext {xs ys : List mIt} (hl : xs.length = ys.length) (h : ∀ i, i < xs.length → it xs i = it ys i) : xs = ys := by
  refine List.ext_getElem hl (fun i h1 h2 => ?_)
  rw [xk_get h1, xk_get h2]
  exact h i h1
theorem it_app_lt {xs zs : List mIt} {i : Nat} (h : i < xs.length) : it (xs ++ zs) i = it xs i := by
  unfold it
  rw [xk_app_lt h, xt_app_lt h]
theorem it_app_ge {xs zs : List mIt} {i : Nat} (h : xs.length ≤ i) : it (xs ++ zs) i = it zs (i - xs.length) := by
  rw [it_get, it_get, List.getD_eq_getElem?_getD, List.getD_eq_getElem?_getD, List.getElem?_append_right h]
theorem it_span {xs : List mIt} {s e i : Nat} (he : e ≤ xs.length) (hi : i < e - s) : it (span xs s e) i = it xs (s + i) := by
  unfold span
  rw [it_get, it_get, List.getD_eq_getElem?_getD, List.getD_eq_getElem?_getD, List.getElem?_drop, List.getElem?_take, if_pos (by omega)]
theorem it_zip {f g : Nat → Int32} {n i : Nat} (h : i < n) : it (zipF f g n) i = (f i, g i) := by
  unfold it
  rw [xk_zip h, xt_zip h]
theorem it_chF {xs : List mIt} {pl : Nat → Nat} {n i : Nat} (h : i < n) : it (chF xs pl n) i = it xs (pl i) := it_zip h
theorem it_rv {xs : List mIt} : ∀ {d i : Nat}, i < d → it (rv xs d) i = it xs (d - 1 - i)
  | d + 1, 0, _ => rfl
  | d + 1, i + 1, h => by
    show it (rv xs d) i = _
    rw [it_rv (by omega), show d + 1 - 1 - (i + 1) = d - 1 - i by omega]
theorem clear_eq {xs : List mIt} {pl : Nat → Nat} : chF xs pl 0 = [] := rfl
theorem drop_eq {xs : List mIt} {p : Nat} (hp : p < xs.length) : chF xs (drF p) (xs.length - 1) = span xs 0 p ++ span xs (p + 1) xs.length := by
  have l1 : (span xs 0 p).length = p := by rw [span_len (by omega)]; omega
  refine xs_ext (by rw [chF_l, List.length_append, l1, span_len (Nat.le_refl _)]; omega) (fun i hi => ?_)
  rw [chF_l] at hi
  rw [it_chF hi]
  unfold drF
  by_cases q : i < p
  · rw [if_pos q, it_app_lt (by omega), it_span (by omega) (by omega), Nat.zero_add]
  · rw [if_neg q, it_app_ge (by omega), it_span (Nat.le_refl _) (by omega), l1, show p + 1 + (i - p) = i + 1 by omega]
theorem turn_eq {xs : List mIt} : chF xs (tnF xs.length) xs.length = rv xs xs.length := by
  refine xs_ext (by rw [chF_l, rv_len]) (fun i hi => ?_)
  rw [chF_l] at hi
  rw [it_chF hi, it_rv hi]
  rfl
theorem roll_eq {xs : List mIt} {b : Nat} (hb : b ≤ xs.length) : chF xs (rlF b xs.length) xs.length = span xs b xs.length ++ span xs 0 b := by
  have l1 : (span xs b xs.length).length = xs.length - b := span_len (Nat.le_refl _)
  refine xs_ext (by rw [chF_l, List.length_append, l1, span_len hb]; omega) (fun i hi => ?_)
  rw [chF_l] at hi
  rw [it_chF hi]
  unfold rlF
  by_cases q : i < xs.length - b
  · rw [it_app_lt (by omega), it_span (Nat.le_refl _) (by omega), Nat.mod_eq_of_lt (by omega), Nat.add_comm]
  · rw [it_app_ge (by omega), it_span hb (by omega), l1, Nat.zero_add, show i + b = (i - (xs.length - b)) + xs.length by omega, Nat.add_mod_right, Nat.mod_eq_of_lt (by omega)]
theorem keep_eq {xs : List mIt} {p t : Nat} (ht : t ≤ xs.length) : zipF (fun i => xk xs (p + i)) (fun i => xt xs (p + i)) (t - p) = span xs p t := by
  refine xs_ext (by rw [zipF_len, span_len ht]) (fun i hi => ?_)
  rw [zipF_len] at hi
  rw [it_zip hi, it_span ht hi]
  rfl
theorem made_nst {r : Nat} {g : Int32} : madeF r g 0 = nst (decide (r < 2)) g := by
  unfold madeF nst
  by_cases q : 1 < r
  · rw [if_pos q, if_neg (by simp; omega)]
  · rw [if_neg q, if_pos (by simp; omega)]
    exact Int32.add_zero g
theorem made_ngv {r : Nat} {g : Int32} : madeG r 1 g = ngv (decide (r < 2)) g := by
  unfold madeG ngv
  by_cases q : 1 < r
  · rw [if_pos q, if_neg (by simp; omega)]
  · rw [if_neg q, if_pos (by simp; omega)]
theorem it_jn {xs : List mIt} {f g : Nat → Int32} {m i : Nat} (h : i < xs.length + m) : it (jnL xs f g m) i = if i < xs.length then it xs i else (f (i - xs.length), g (i - xs.length)) := by
  unfold jnL
  rw [it_zip h]
  unfold bothF
  split
  · rfl
  · rfl
theorem add_eq {xs : List mIt} {key : Int32} {r : Nat} {g : Int32} : jnL xs (fun _ => key) (madeF r g) 1 = xs ++ [(key, nst (decide (r < 2)) g)] := by
  refine xs_ext (by rw [jnL_len, List.length_append]; rfl) (fun i hi => ?_)
  rw [jnL_len] at hi
  rw [it_jn hi]
  split
  · rename_i q
    rw [it_app_lt q]
  · rename_i q
    obtain rfl : i = xs.length := by omega
    rw [it_app_ge (Nat.le_refl _), Nat.sub_self, made_nst]
    rfl
/-! what is brought from another row -/
def bst (t ft : Bool) (xs : List mIt) (g : Int32) (i k : Nat) : Int32 := if t = true then (if ft = true then xt xs k else g + nI (k - i)) else -1
def bgv (t ft : Bool) (d : Nat) (g : Int32) : Int32 := if t = true then (if ft = true then g else g + nI d) else g
theorem nI_step {g : Int32} {a : Nat} : g + nI 1 + nI a = g + nI (a + 1) := by rw [Int32.add_assoc, nI_add, Nat.add_comm]
theorem bring_go {xs : List mIt} {t ft : Bool} : ∀ (d i : Nat) (ys : List mIt) (g : Int32), mlp (stBring xs t ft) d i (ys, g) = (ys ++ (List.range' i d).map (fun k => (xk xs k, bst t ft xs g i k)), bgv t ft d g) := by
  intro d
  induction d with
  | zero =>
    intro i ys g
    show (ys, g) = _
    rw [show (List.range' i 0) = [] from rfl, List.map_nil, List.append_nil]
    unfold bgv
    cases t <;> cases ft <;> simp [show nI 0 = (0 : Int32) from rfl]
  | succ d ih =>
    intro i ys g
    show mlp (stBring xs t ft) d (i + 1) (ys ++ [(xk xs i, cst t ft (xt xs i) g)], cgv t ft g) = _
    rw [ih, List.range'_succ, List.map_cons, List.append_assoc]
    have e1 : bgv t ft d (cgv t ft g) = bgv t ft (d + 1) g := by
      unfold bgv cgv
      cases t <;> cases ft <;> simp only [if_true, if_false, Bool.false_eq_true, nI_step]
    have e2 : cst t ft (xt xs i) g = bst t ft xs g i i := by
      unfold cst bst
      rw [Nat.sub_self, show nI 0 = (0 : Int32) from rfl, Int32.add_zero]
    have e3 : (List.range' (i + 1) d).map (fun k => (xk xs k, bst t ft xs (cgv t ft g) (i + 1) k)) = (List.range' (i + 1) d).map (fun k => (xk xs k, bst t ft xs g i k)) := by
      refine List.map_congr_left (fun k hk => ?_)
      have hk2 := List.mem_range'_1.mp hk
      refine congrArg (fun z => (xk xs k, z)) ?_
      unfold bst cgv
      cases t <;> cases ft <;> simp only [if_true, if_false, Bool.false_eq_true]
      rw [nI_step, show k - (i + 1) + 1 = k - i by omega]
    rw [e1, e2, e3]
    rfl
theorem bring_jn {xs ys : List mIt} {r q : Nat} {g : Int32} : (bringL xs (decide (r < 2)) (decide (q < 2)) ys g).1 = jnL ys (xk xs) (comF r q xs.length xs g) xs.length ∧ (bringL xs (decide (r < 2)) (decide (q < 2)) ys g).2 = comG r q xs.length g := by
  unfold bringL
  rw [bring_go, Nat.sub_zero]
  constructor
  · dsimp only
    refine xs_ext (by rw [List.length_append, List.length_map, List.length_range', jnL_len]) (fun i hi => ?_)
    rw [List.length_append, List.length_map, List.length_range'] at hi
    rw [it_jn hi]
    split
    · rename_i h
      rw [it_app_lt h]
    · rename_i h
      rw [it_app_ge (by omega), it_get, List.getD_eq_getElem?_getD, List.getElem?_map, List.getElem?_range' (by omega)]
      show (xk xs (0 + 1 * (i - ys.length)), bst _ _ xs g 0 (0 + 1 * (i - ys.length))) = _
      rw [Nat.zero_add, Nat.one_mul]
      refine congrArg (fun z => (xk xs (i - ys.length), z)) ?_
      unfold bst comF madeF
      rw [Nat.sub_zero]
      by_cases q1 : 1 < r
      · rw [if_neg (by simp; omega), if_pos (Or.inl q1), if_pos q1]
      · rw [if_pos (by simp; omega)]
        by_cases q2 : 1 < q
        · rw [if_neg (by simp; omega), if_pos (Or.inr q2), if_neg q1]
        · rw [if_pos (by simp; omega), if_neg (by omega)]
  · dsimp only
    unfold bgv comG madeG
    by_cases q1 : 1 < r
    · rw [if_neg (by simp; omega), if_pos (Or.inl q1), if_pos q1]
    · rw [if_pos (by simp; omega)]
      by_cases q2 : 1 < q
      · rw [if_neg (by simp; omega), if_pos (Or.inr q2), if_neg q1]
      · rw [if_pos (by simp; omega), if_neg (by omega)]
theorem jn_nil {xs : List mIt} {f : Nat → Int32} {m : Nat} : jnL [] (xk xs) f m = zipF (xk xs) f m := by
  refine xs_ext (by rw [jnL_len, zipF_len]; exact Nat.zero_add _) (fun i hi => ?_)
  rw [jnL_len] at hi
  rw [it_jn hi, if_neg (show ¬ i < ([] : List mIt).length from Nat.not_lt_zero _), it_zip (by simpa using hi)]
  rfl
/-! wrong pairs: none where a row rises -/
theorem side_1 {x y : Int32} : sideF x y = nI 1 ↔ y < x := by
  unfold sideF
  by_cases h1 : x < y
  · rw [if_pos h1]
    rw [Int32.lt_iff_toInt_lt] at h1 ⊢
    exact ⟨fun z => absurd z (by decide), fun z => by omega⟩
  · rw [if_neg h1]
    by_cases h2 : x = y
    · rw [if_pos h2, h2, Int32.lt_iff_toInt_lt]
      exact ⟨fun z => absurd z (by decide), fun z => absurd z (by omega)⟩
    · rw [if_neg h2]
      rw [Int32.lt_iff_toInt_lt] at h1 ⊢
      rw [← Int32.toInt_inj] at h2
      exact ⟨fun _ => by omega, fun _ => rfl⟩
theorem sum_in {c : Nat → Prop} {dc : ∀ o, Decidable (c o)} : ∀ (d s a : Nat), ∃ m, m ≤ d ∧ mlp (fun o (acc : Int32) => acc + (if c o then nI 1 else nI 0)) d s (nI a) = nI (a + m) ∧ (m = 0 ↔ ∀ o, s ≤ o → o < s + d → ¬ c o) := by
  intro d
  induction d with
  | zero => intro s a; exact ⟨0, Nat.le_refl _, rfl, ⟨fun _ o h1 h2 => absurd h2 (by omega), fun _ => rfl⟩⟩
  | succ d ih =>
    intro s a
    by_cases h : c s
    · obtain ⟨m, m1, m2, m3⟩ := ih (s + 1) (a + 1)
      refine ⟨m + 1, by omega, ?_, ⟨fun z => absurd z (by omega), fun z => absurd h (z s (Nat.le_refl _) (by omega))⟩⟩
      show mlp _ d (s + 1) (nI a + (if c s then nI 1 else nI 0)) = _
      rw [if_pos h, nI_add, m2, show a + 1 + m = a + (m + 1) by omega]
    · obtain ⟨m, m1, m2, m3⟩ := ih (s + 1) a
      refine ⟨m, by omega, ?_, ?_⟩
      · show mlp _ d (s + 1) (nI a + (if c s then nI 1 else nI 0)) = _
        rw [if_neg h, nI_add]
        exact m2
      · rw [m3]
        exact ⟨fun z o o1 o2 => if e : o = s then e ▸ h else z o (by omega) (by omega), fun z o o1 o2 => z o (by omega) (by omega)⟩
theorem pairs_in {xs : List mIt} {how : Int32} : ∀ (d s a : Nat), ∃ m, m ≤ d * (s + d) ∧ mlp (fun k acc => mlp (prS xs how k) (k - 0) 0 acc) d s (nI a) = nI (a + m) ∧ (m = 0 ↔ ∀ k o, s ≤ k → k < s + d → o < k → ¬ sideF (xk xs o) (xk xs k) = how) := by
  intro d
  induction d with
  | zero => intro s a; exact ⟨0, Nat.zero_le _, rfl, ⟨fun _ k o h1 h2 _ => absurd h2 (by omega), fun _ => rfl⟩⟩
  | succ d ih =>
    intro s a
    obtain ⟨m1, k1, k2, k3⟩ := sum_in (c := fun o => sideF (xk xs o) (xk xs s) = how) (dc := fun _ => inferInstance) (s - 0) 0 a
    obtain ⟨m2, j1, j2, j3⟩ := ih (s + 1) (a + m1)
    refine ⟨m1 + m2, ?_, ?_, ?_⟩
    · have e1 : (d + 1) * (s + (d + 1)) = d * (s + 1 + d) + (s + (d + 1)) := by rw [Nat.add_mul, Nat.one_mul, show s + (d + 1) = s + 1 + d by omega]
      omega
    · show mlp _ d (s + 1) (mlp (prS xs how s) (s - 0) 0 (nI a)) = _
      rw [show mlp (prS xs how s) (s - 0) 0 (nI a) = nI (a + m1) from k2, j2, Nat.add_assoc]
    · constructor
      · intro z k o h1 h2 h3
        by_cases e : k = s
        · subst e
          exact k3.mp (by omega) o (Nat.zero_le _) (by omega)
        · exact j3.mp (by omega) k o (by omega) (by omega) h3
      · intro z
        have z1 := k3.mpr (fun o _ h2 => z s o (Nat.le_refl _) (by omega) (by omega))
        have z2 := j3.mpr (fun k o h1 h2 h3 => z k o (by omega) (by omega) h3)
        omega
theorem wrong_pos {xs : List mIt} (hL : xs.length ≤ 320) : (0 < mq_pairs xs (nI 1)) ↔ q_isRising xs = false := by
  obtain ⟨m, m1, m2, m3⟩ := pairs_in (xs := xs) (how := nI 1) xs.length 0 0
  have e : mq_pairs xs (nI 1) = nI (0 + m) := m2
  have hb : xs.length * (0 + xs.length) ≤ 320 * 320 := by
    rw [Nat.zero_add]
    exact Nat.mul_le_mul hL hL
  rw [e, Nat.zero_add, mI_gt0 (by omega)]
  have h9 : m = 0 ↔ q_isRising xs = true := by
    rw [m3, rising_iff]
    constructor
    · intro z i j h1 h2 h3
      exact z j i (Nat.zero_le _) (by omega) h1 (side_1.mpr h3)
    · intro z k o _ h2 h3 h4
      exact z o k h3 (by omega) (side_1.mp h4)
  cases hq : q_isRising xs with
  | true => have := h9.mpr hq; exact ⟨fun z => absurd z (by omega), fun z => by cases z⟩
  | false =>
    have : m ≠ 0 := fun z => by rw [h9.mp z] at hq; cases hq
    exact ⟨fun _ => rfl, fun _ => by omega⟩
/-! patterns -/
theorem pat_key {p k m : Nat} {a : Int32} {b : Nat} (hp : p < 7) (hb : 0 < b) : patKey p k m a b = mpat p k m a b := by
  match p, hp with
  | 0, _ => rfl
  | 1, _ => rfl
  | 2, _ => rfl
  | 3, _ => rfl
  | 4, _ =>
    show (if k / b % 2 = 0 then a + nI (k % b) else a + nI b - nI 1 - nI (k % b)) = a + (if k / b % 2 = 0 then nI (k % b) else nI (b - 1 - k % b))
    split
    · rfl
    · have h1 : k % b < b := Nat.mod_lt _ hb
      obtain ⟨c, hc⟩ : ∃ c, b = c + (k % b) + 1 := ⟨b - 1 - k % b, by omega⟩
      rw [show b - 1 - k % b = c by omega]
      generalize k % b = j at hc
      subst hc
      rw [← nI_add (c + j) 1, ← nI_add c j, ← Int32.add_assoc, Int32.add_sub_cancel, ← Int32.add_assoc, Int32.add_sub_cancel]
  | 5, _ => rfl
  | 6, _ => rfl
def fst9 (bl : Bool) (g : Int32) (i k : Nat) : Int32 := if bl = true then g + nI (k - i) else -1
theorem fst_0 {bl : Bool} {g : Int32} {i : Nat} : nst bl g = fst9 bl g i i := by
  unfold nst fst9
  rw [Nat.sub_self, show nI 0 = (0 : Int32) from rfl, Int32.add_zero]
theorem fst_s {bl : Bool} {g : Int32} {i k : Nat} (h : i < k) : fst9 bl (ngv bl g) (i + 1) k = fst9 bl g i k := by
  unfold fst9 ngv
  cases bl <;> simp only [if_true, if_false, Bool.false_eq_true]
  rw [nI_step, show k - (i + 1) + 1 = k - i by omega]
def fgv (bl : Bool) (d : Nat) (g : Int32) : Int32 := if bl = true then g + nI d else g
theorem fgv_0 {bl : Bool} {g : Int32} : fgv bl 0 g = g := by
  unfold fgv
  cases bl <;> simp [show nI 0 = (0 : Int32) from rfl]
theorem fgv_s {bl : Bool} {g : Int32} {d : Nat} : fgv bl d (ngv bl g) = fgv bl (d + 1) g := by
  unfold fgv ngv
  cases bl <;> simp only [if_true, if_false, Bool.false_eq_true, nI_step]
theorem pat_go {p m : Nat} {a : Int32} {b : Nat} {bl : Bool} : ∀ (d i : Nat) (ys : List mIt) (g : Int32), mlp (stPat p m a b bl) d i (ys, g) = (ys ++ (List.range' i d).map (fun k => (patKey p k m a b, fst9 bl g i k)), fgv bl d g) := by
  intro d
  induction d with
  | zero =>
    intro i ys g
    rw [fgv_0]
    exact Prod.ext (List.append_nil ys).symm rfl
  | succ d ih =>
    intro i ys g
    show mlp (stPat p m a b bl) d (i + 1) (ys ++ [(patKey p i m a b, nst bl g)], ngv bl g) = _
    rw [ih, List.range'_succ, List.map_cons, List.append_assoc, fgv_s, fst_0 (i := i)]
    have e3 : (List.range' (i + 1) d).map (fun k => (patKey p k m a b, fst9 bl (ngv bl g) (i + 1) k)) = (List.range' (i + 1) d).map (fun k => (patKey p k m a b, fst9 bl g i k)) := List.map_congr_left (fun k hk => by rw [fst_s (by have := List.mem_range'_1.mp hk; omega)])
    rw [e3]
    rfl
theorem drs_s {x : Int32} (k : Nat) : drs (drw x) k = drs x (k + 1) := by
  induction k with
  | zero => simp only [drs]
  | succ k ih =>
    simp only [drs] at ih ⊢
    rw [ih]
theorem drw_go {bl : Bool} : ∀ (d i : Nat) (ys : List mIt) (g x : Int32), ∃ x', mlp (stDrw bl) d i (ys, g, x) = (ys ++ (List.range' i d).map (fun k => (drk (drs x (k - i + 1)), fst9 bl g i k)), fgv bl d g, x') := by
  intro d
  induction d with
  | zero =>
    intro i ys g x
    rw [fgv_0]
    exact ⟨x, Prod.ext (List.append_nil ys).symm rfl⟩
  | succ d ih =>
    intro i ys g x
    obtain ⟨x', h⟩ := ih (i + 1) (ys ++ [(drk (drw x), nst bl g)]) (ngv bl g) (drw x)
    refine ⟨x', ?_⟩
    show mlp (stDrw bl) d (i + 1) (ys ++ [(drk (drw x), nst bl g)], ngv bl g, drw x) = _
    rw [h, List.range'_succ, List.map_cons, List.append_assoc, fgv_s, fst_0 (i := i)]
    have e3 : (List.range' (i + 1) d).map (fun k => (drk (drs (drw x) (k - (i + 1) + 1)), fst9 bl (ngv bl g) (i + 1) k)) = (List.range' (i + 1) d).map (fun k => (drk (drs x (k - i + 1)), fst9 bl g i k)) := List.map_congr_left (fun k hk => by
      have hk2 := List.mem_range'_1.mp hk
      rw [fst_s (by omega), drs_s, show k - (i + 1) + 1 + 1 = k - i + 1 by omega])
    rw [e3, Nat.sub_self]
    rfl
theorem fill_eq {p m : Nat} {a : Int32} {b r : Nat} {g : Int32} (hp : p < 8) (hb : 0 < b) : (fillL p m a b (decide (r < 2)) g).1 = zipF (flF p m a b) (madeF r g) m ∧ (fillL p m a b (decide (r < 2)) g).2 = madeG r m g := by
  have hg : ∀ i k : Nat, fst9 (decide (r < 2)) g 0 k = madeF r g k := fun i k => by
    unfold fst9 madeF
    rw [Nat.sub_zero]
    by_cases q : 1 < r
    · rw [if_pos q, if_neg (by simp; omega)]
    · rw [if_neg q, if_pos (by simp; omega)]
  have hv : fgv (decide (r < 2)) m g = madeG r m g := by
    unfold fgv madeG
    by_cases q : 1 < r
    · rw [if_pos q, if_neg (by simp; omega)]
    · rw [if_neg q, if_pos (by simp; omega)]
  have hz : ∀ f : Nat → Int32, ([] : List mIt) ++ (List.range' 0 m).map (fun k => (f k, fst9 (decide (r < 2)) g 0 k)) = zipF f (madeF r g) m := fun f => by
    unfold zipF
    rw [List.nil_append, List.range_eq_range']
    exact List.map_congr_left (fun k _ => by rw [hg 0 k])
  unfold fillL
  by_cases h7 : p = 7
  · rw [if_pos h7]
    obtain ⟨x', h⟩ := drw_go (bl := decide (r < 2)) (m - 0) 0 [] g (drx a b)
    rw [h]
    refine ⟨?_, hv⟩
    dsimp only
    rw [Nat.sub_zero]
    refine (hz (fun k => drk (drs (drx a b) (k - 0 + 1)))).trans ?_
    refine congrArg (fun f => zipF f (madeF r g) m) (funext fun k => ?_)
    unfold flF
    rw [if_pos h7, Nat.sub_zero]
  · rw [if_neg h7, pat_go]
    refine ⟨?_, hv⟩
    dsimp only
    rw [Nat.sub_zero]
    refine (hz (fun k => patKey p k m a b)).trans ?_
    refine congrArg (fun f => zipF f (madeF r g) m) (funext fun k => ?_)
    unfold flF
    rw [if_neg h7, pat_key (by omega) hb]
/-! the next states -/
def stOf (S : cS) (o : Nat × Value × cS) : cS := if o.1 = 0 then o.2.2 else S
def lenOk (S : cS) : Prop := ∀ r, r < 4 → (S.1 r).length ≤ rroom r
theorem dAt_c {S : cS} {k : Nat} {x : Int32} {f g : Nat → Nat × Value × cS} (hk : k < 2 ^ 31) (h : ∀ j, j < k → (g j).2.2 = stOf S (f j)) : (dAt S k x g).2.2 = stOf S (dAt S k x f) := by
  rcases q : inN k x with _ | j
  · rw [dAt_n q, dAt_n q]; rfl
  · obtain ⟨hj, rfl⟩ := inN_of q hk
    rw [dAt_s hj hk, dAt_s hj hk]
    exact h j hj
theorem dArg_c {S : cS} {k : Nat} {x : Int32} {f g : Nat → Nat × Value × cS} (hk : k < 2 ^ 31) (h : ∀ j, j < k → (g j).2.2 = stOf S (f j)) : (dArg S k x g).2.2 = stOf S (dArg S k x f) := by
  rcases q : inN k x with _ | j
  · rw [dArg_n q, dArg_n q]; rfl
  · obtain ⟨hj, rfl⟩ := inN_of q hk
    rw [dArg_s hj hk, dArg_s hj hk]
    exact h j hj
theorem dFit_c {S : cS} {b : Bool} {f g : Nat × Value × cS} (h : g.2.2 = stOf S f) : (dFit S b g).2.2 = stOf S (dFit S b f) := by
  cases b with
  | true => rw [dFit_s rfl, dFit_s rfl]; exact h
  | false => rw [dFit_n rfl, dFit_n rfl]; rfl
theorem dB_c {S : cS} {x : Int32} {f g : Nat → Nat × Value × cS} (h : ∀ j, 0 < j → (g j).2.2 = stOf S (f j)) : (dB S x g).2.2 = stOf S (dB S x f) := by
  by_cases q : x < 1 ∨ nI 99 < x
  · rw [dB_n q, dB_n q]; rfl
  · obtain ⟨bn, hbn, hb0, rfl⟩ := dB_in (fun z => q (Or.inl z)) (fun z => q (Or.inr z))
    rw [dB_s hbn hb0, dB_s hbn hb0]
    exact h bn hb0
theorem dKeep_c {S : cS} {L : Nat} {x y : Int32} {f g : Nat → Nat → Nat × Value × cS} (hL : L < 2 ^ 30) (h : ∀ p t, p ≤ t → t ≤ L → (g p t).2.2 = stOf S (f p t)) : (dKeep S L x y g).2.2 = stOf S (dKeep S L x y f) := by
  by_cases q : x < 0 ∨ y < x ∨ nI L < y
  · rw [keep_neg q, keep_neg q]; rfl
  · obtain ⟨p, hp, t, ht, hpt, rfl, rfl⟩ := keep_in (fun z => q (Or.inl z)) (fun z => q (Or.inr (Or.inl z))) (fun z => q (Or.inr (Or.inr z))) hL
    rw [keep_pos hpt ht hL, keep_pos hpt ht hL]
    exact h p t hpt (by omega)
theorem eqS_clear {S : cS} {row : Int32} : (mp_clear S row).2.2 = stOf S (sp_clear S row) := dAt_c (by decide) (fun _ _ => rfl)
theorem eqS_drop {S : cS} {row place : Int32} (hS : lenOk S) : (mp_drop S row place).2.2 = stOf S (sp_drop S row place) :=
  dAt_c (by decide) (fun r hr => dAt_c (by have := hS r hr; have := @rroom_le r; omega) (fun p hp => congrArg (fun z => cAct (cSet S r z)) (drop_eq hp)))
theorem eqS_put {S : cS} {row place key : Int32} (hS : lenOk S) : (mp_put S row place key).2.2 = stOf S (sp_put S row place key) :=
  dAt_c (by decide) (fun r hr => dAt_c (by have := hS r hr; have := @rroom_le r; omega) (fun p hp => dFit_c (by
    show cAct (cGiv (cSet S r ((S.1 r).set p (key, madeF r S.2.1 0))) (madeG r 1 S.2.1)) = cAct (cGiv (cSet S r ((S.1 r).set p (key, nst (decide (r < 2)) S.2.1))) (ngv (decide (r < 2)) S.2.1))
    rw [made_nst, made_ngv])))
theorem eqS_add {S : cS} {row key : Int32} (hS : lenOk S) : (mp_add S row key).2.2 = stOf S (sp_add S row key) :=
  dAt_c (by decide) (fun r hr => dFit_c (by
    have h1 := hS r hr
    by_cases q : (S.1 r).length = rroom r
    · rw [if_pos q, if_pos (by omega)]; rfl
    · rw [if_neg q, if_neg (by omega)]
      show cAct (cGiv (cSet S r (jnL (S.1 r) (fun _ => key) (madeF r S.2.1) 1)) (madeG r 1 S.2.1)) = _
      rw [add_eq, made_ngv]
      rfl))
theorem eqS_exchange {S : cS} {row place : Int32} (hS : lenOk S) : (mp_exchange S row place).2.2 = stOf S (sp_exchange S row place) :=
  dAt_c (by decide) (fun r hr => dAt_c (by have := hS r hr; have := @rroom_le r; omega) (fun p hp => rfl))
theorem eqS_swap {S : cS} {row place other : Int32} (hS : lenOk S) : (mp_swap S row place other).2.2 = stOf S (sp_swap S row place other) :=
  dAt_c (by decide) (fun r hr => dAt_c (by have := hS r hr; have := @rroom_le r; omega) (fun p hp => dAt_c (by have := hS r hr; have := @rroom_le r; omega) (fun q hq => rfl)))
theorem eqS_turn {S : cS} {row : Int32} : (mp_turn S row).2.2 = stOf S (sp_turn S row) := dAt_c (by decide) (fun r _ => congrArg (fun z => cAct (cSet S r z)) turn_eq)
theorem eqS_roll {S : cS} {row by_ : Int32} (hS : lenOk S) : (mp_roll S row by_).2.2 = stOf S (sp_roll S row by_) :=
  dAt_c (by decide) (fun r hr => dArg_c (by have := hS r hr; have := @rroom_le r; omega) (fun b hb => congrArg (fun z => cAct (cSet S r z)) (roll_eq (by omega))))
theorem eqS_keep {S : cS} {row from_ to : Int32} (hS : lenOk S) : (mp_keep S row from_ to).2.2 = stOf S (sp_keep S row from_ to) :=
  dAt_c (by decide) (fun r hr => dKeep_c (by have := hS r hr; have := @rroom_le r; omega) (fun p t hpt ht => congrArg (fun z => cAct (cSet S r z)) (keep_eq ht)))
theorem eqS_sort {S : cS} {row : Int32} : (mp_sort S row).2.2 = stOf S (sp_sort S row) := dAt_c (by decide) (fun r _ => congrArg (fun z => cAct (cSet S r z)) msort_scat)
theorem eqS_copy {S : cS} {row into : Int32} (hS : lenOk S) : (mp_copy S row into).2.2 = stOf S (sp_copy S row into) :=
  dAt_c (by decide) (fun r hr => dAt_c (by decide) (fun q hq => by
    have h1 := hS r hr
    have h2 := hS q hq
    by_cases e : r = q
    · subst e
      rw [if_neg (by omega), if_pos rfl, if_pos rfl]; rfl
    · rw [if_neg e, if_neg e]
      by_cases f : rroom q < (S.1 r).length
      · rw [if_pos f, if_pos f]; rfl
      · rw [if_neg f, if_neg f]
        show cAct (cGiv (cSet S q (zipF (xk (S.1 r)) (comF q r (S.1 r).length (S.1 r) S.2.1) (S.1 r).length)) (comG q r (S.1 r).length S.2.1)) = _
        obtain ⟨b1, b2⟩ := bring_jn (xs := S.1 r) (ys := []) (r := q) (q := r) (g := S.2.1)
        rw [← jn_nil, ← b1, ← b2]
        rfl))
theorem eqS_join {S : cS} {row other : Int32} (hS : lenOk S) : (mp_join S row other).2.2 = stOf S (sp_join S row other) :=
  dAt_c (by decide) (fun r hr => dAt_c (by decide) (fun q hq => by
    have h1 := hS r hr
    by_cases f : rroom r < (S.1 r).length + (S.1 q).length
    · rw [if_pos f, if_pos (by omega)]; rfl
    · rw [if_neg f, if_neg (by omega)]
      show cAct (cGiv (cSet S r (jnL (S.1 r) (xk (S.1 q)) (comF r q (S.1 q).length (S.1 q) S.2.1) (S.1 q).length)) (comG r q (S.1 q).length S.2.1)) = _
      obtain ⟨b1, b2⟩ := bring_jn (xs := S.1 q) (ys := S.1 r) (r := r) (q := q) (g := S.2.1)
      rw [← b1, ← b2]
      rfl))
theorem xk_jn_lt {xs : List mIt} {f g : Nat → Int32} {m i : Nat} (h : i < xs.length) : xk (jnL xs f g m) i = xk xs i := congrArg Prod.fst ((it_jn (f := f) (g := g) (m := m) (show i < xs.length + m by omega)).trans (if_pos h))
theorem xk_jn_ge {xs : List mIt} {f g : Nat → Int32} {m i : Nat} (h : ¬ i < xs.length) (h2 : i < xs.length + m) : xk (jnL xs f g m) i = f (i - xs.length) := congrArg Prod.fst ((it_jn (f := f) (g := g) h2).trans (if_neg h))
theorem eqS_merge {S : cS} {row other : Int32} (hS : lenOk S) : (mp_merge S row other).2.2 = stOf S (sp_merge S row other) :=
  dAt_c (by decide) (fun r hr => dAt_c (by decide) (fun q hq => by
    have h1 := hS r hr
    have h2 := hS q hq
    have h3 := @rroom_le r
    have h4 := @rroom_le q
    have w1 := wrong_pos (xs := S.1 r) (by omega)
    have w2 := wrong_pos (xs := S.1 q) (by omega)
    by_cases e1 : q_isRising (S.1 r) = false
    · rw [if_pos (w1.mpr e1), if_pos e1]; rfl
    · rw [if_neg (fun z => e1 (w1.mp z)), if_neg e1]
      by_cases e2 : q_isRising (S.1 q) = false
      · rw [if_pos (w2.mpr e2), if_pos e2]; rfl
      · rw [if_neg (fun z => e2 (w2.mp z)), if_neg e2]
        by_cases f : rroom r < (S.1 r).length + (S.1 q).length
        · rw [if_pos f, if_pos (by omega)]; rfl
        · rw [if_neg f, if_neg (by omega)]
          obtain ⟨b1, b2⟩ := bring_jn (xs := S.1 q) (ys := S.1 r) (r := r) (q := q) (g := S.2.1)
          have r1 := rising_iff.mp (eq_true_of_ne_false e1)
          have r2 := rising_iff.mp (eq_true_of_ne_false e2)
          have w : chF (jnL (S.1 r) (xk (S.1 q)) (comF r q (S.1 q).length (S.1 q) S.2.1) (S.1 q).length) (scat (jnL (S.1 r) (xk (S.1 q)) (comF r q (S.1 q).length (S.1 q) S.2.1) (S.1 q).length)) (jnL (S.1 r) (xk (S.1 q)) (comF r q (S.1 q).length (S.1 q) S.2.1) (S.1 q).length).length = weave (jnL (S.1 r) (xk (S.1 q)) (comF r q (S.1 q).length (S.1 q) S.2.1) (S.1 q).length) (S.1 r).length := by
            refine weave_scat (by rw [jnL_len]; omega) (fun i j hij hj => ?_) (fun i j hi hij hj => ?_)
            · rw [xk_jn_lt hj, xk_jn_lt (show i < (S.1 r).length by omega)]
              exact r1 i j hij hj
            · rw [jnL_len] at hj
              rw [xk_jn_ge (by omega) hj, xk_jn_ge (by omega) (by omega)]
              exact r2 _ _ (by omega) (by omega)
          refine (congrArg (fun z => cAct (cGiv (cSet S r z) (comG r q (S.1 q).length S.2.1))) (w.trans (show weave (jnL (S.1 r) (xk (S.1 q)) (comF r q (S.1 q).length (S.1 q) S.2.1) (S.1 q).length) (S.1 r).length = weave (bringL (S.1 q) (decide (r < 2)) (decide (q < 2)) (S.1 r) S.2.1).1 (S.1 r).length from by rw [b1]))).trans ?_
          rw [← b2]
          rfl))
theorem eqS_fill {S : cS} {row many pattern a b : Int32} : (mp_fill S row many pattern a b).2.2 = stOf S (sp_fill S row many pattern a b) :=
  dAt_c (by decide) (fun r hr => dArg_c (by have := @rroom_le r; omega) (fun m hm => dArg_c (by decide) (fun p hp => dFit_c (dB_c (fun bn hb => by
    obtain ⟨b1, b2⟩ := fill_eq (p := p) (m := m) (a := a) (b := bn) (r := r) (g := S.2.1) hp hb
    show cAct (cGiv (cSet S r (zipF (flF p m a bn) (madeF r S.2.1) m)) (madeG r m S.2.1)) = _
    rw [← b1, ← b2]
    rfl)))))
