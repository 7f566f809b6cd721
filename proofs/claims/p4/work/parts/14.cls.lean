/-! ===== the class's state, what calls answer ===== -/
section MTH
variable {l : Launch} {M : mM} {R : Room} {K : mK} {pc : Nat} {ls st : List Value} {h : mH} {n cc sc : Nat}
theorem mt_acmp_ne {a b : Nat} {off : Int} {tgt : Nat} (hdg : decode M.2.1 pc = .ok (.if_acmp .ne off, 3)) (ht : (pc : Int) + off = (tgt : Int)) (kt : ¬ a = b → mT l M R K tgt ls st h n cc sc) (kf : a = b → mT l M R K (pc + 3) ls st h n cc sc) : mT l M R K pc ls (.ref b :: .ref a :: st) h n cc sc := by
  intro p e s m args below meth c G w0 H locs LS ws st' hC hD
  obtain ⟨d1, d2, d3, d4, d5, d6, d7⟩ := hD
  obtain ⟨⟨y, eb⟩, t1, hwb, rfl, d7a⟩ := d7.ref
  obtain ⟨⟨x, ea⟩, t2, hwa, rfl, d7b⟩ := d7a.ref
  have hxy : x = y ↔ a = b := ⟨fun q => d3.1 a b _ _ hwa hwb q, fun q => by subst q; rw [hwa] at hwb; cases hwb; rfl⟩
  refine lv_acmp_ne (rx := some x) (ry := some y) hC.1 hC.2.2.1 hdg ht (fun q => kt (fun q2 => q (congrArg some (hxy.mpr q2))) p e s m args below meth c G w0 H locs LS ws _ hC ⟨d1, d2, d3, d4, d5, d6, d7b⟩) (fun q => kf (hxy.mp (Option.some.inj q)) p e s m args below meth c G w0 H locs LS ws _ hC ⟨d1, d2, d3, d4, d5, d6, d7b⟩)
theorem mp_aaload {a t len j : Nat} {i : Int32} {g : Nat → Option Nat} {ty : FieldType} {v : Value} (hdg : decode M.2.1 pc = .ok (.aaload, 1)) (he : h a = .inr (.inl (t, len, g))) (ht : ∀ tc, (mTy tc)[t]? = some (tc t, ty)) (hty : ty.isReference = true) (hi : i = nI j) (hj : j < len) (hL : len < 2 ^ 31) (hv : va_rf (g j) = v) (k : mT l M R K (pc + 1) ls (v :: st) h n cc sc) : mT l M R K pc ls (.int i :: .ref a :: st) h n cc sc := mt_aaload hdg he ht hty hi hj hL hv k
end MTH
/-- a number of k that begin with 0 -/
def inN (k : Nat) (x : Int32) : Option Nat := if x < 0 ∨ ¬ x < nI k then none else some x.toNatClampNeg
theorem inN_some {k j : Nat} (hj : j < k) (hk : k < 2 ^ 31) : inN k (nI j) = some j := by
  unfold inN
  rw [if_neg, nI_clamp (by omega)]
  rintro (h | h)
  · exact nI_pos (by omega) h
  · exact h (nI_lt hj hk)
theorem inN_out {k j : Nat} (hj : ¬ j < k) (h : j < 2 ^ 31) : inN k (nI j) = none := by
  unfold inN
  rw [if_pos (Or.inr (nI_nlt (by omega) h))]
theorem inN_neg {k : Nat} {x : Int32} (h : x < 0) : inN k x = none := if_pos (Or.inl h)
theorem inN_big {k : Nat} {x : Int32} (h : ¬ x < nI k) : inN k x = none := if_pos (Or.inr h)
theorem inN_mid {k : Nat} {x : Int32} (h0 : ¬ x < 0) (h : x < nI k) (hk : k < 2 ^ 31) : ∃ j, j < k ∧ x = nI j := by
  obtain ⟨j, hj, rfl⟩ := nI_of h0
  exact ⟨j, (nI_ltI hj hk).mp h, rfl⟩
theorem inN_le {k : Nat} {x : Int32} (h0 : ¬ x < 0) (h : ¬ nI k < x) (hk : k < 2 ^ 30) : ∃ j, j < k + 1 ∧ x = nI j := by
  obtain ⟨j, hj, rfl⟩ := nI_of h0
  refine ⟨j, ?_, rfl⟩
  have := (not_congr (nI_ltI (by omega) hj)).mp h
  omega
theorem inN_gt {k : Nat} {x : Int32} (h : nI k < x) (hk : k < 2 ^ 30) : inN (k + 1) x = none := by
  by_cases h0 : x < 0
  · exact inN_neg h0
  · obtain ⟨j, hj, rfl⟩ := nI_of h0
    exact inN_out (by have := (nI_ltI (by omega) hj).mp h; omega) hj
theorem inN_of {k j : Nat} {x : Int32} (h : inN k x = some j) (hk : k < 2 ^ 31) : j < k ∧ x = nI j := by
  unfold inN at h
  split at h
  · cases h
  · rename_i q
    have q1 : ¬ x < 0 := fun z => q (Or.inl z)
    have q2 : x < nI k := Classical.byContradiction fun z => q (Or.inr z)
    obtain ⟨i, hi, rfl⟩ := inN_mid q1 q2 hk
    cases h
    rw [nI_clamp (by omega)]
    exact ⟨hi, rfl⟩
abbrev cS : Type := (Nat → List mIt) × Int32 × Int32 × Int32 × Int32
def rroom (r : Nat) : Nat := if r = 3 then 320 else 150
def cSet (S : cS) (r : Nat) (ys : List mIt) : cS := (fun k => if k = r then ys else S.1 k, S.2)
def cAct (S : cS) : cS := (S.1, S.2.1, S.2.2.1 + nI 1, S.2.2.2.1, S.2.2.2.2)
def cRef (S : cS) : cS := (S.1, S.2.1, S.2.2.1, S.2.2.2.1 + nI 1, S.2.2.2.2)
def cGiv (S : cS) (g : Int32) : cS := (S.1, g, S.2.2)
def cObj (S : cS) : mE := .inr (.inr (4, [.ref 1, .ref 14, .int S.2.1, .int S.2.2.1, .int S.2.2.2.1, .int S.2.2.2.2]))
/-- the class's object with all its cells, 0 to 26 -/
def cAt (h : mH) (S : cS) : Prop := h 0 = cObj S ∧ (∃ g : Nat → Option Nat, h 1 = .inr (.inl (2, 4, g)) ∧ ∀ r, r < 4 → g r = some (2 + 3 * r)) ∧ h 14 = .inr (.inr (2, [.ref 15, .ref 18, .ref 21, .ref 24])) ∧ (∀ r, r < 4 → rowAt h (2 + 3 * r) (rroom r) (mb (decide (r < 2))) (S.1 r)) ∧ (∃ zs, rowAt h 15 320 (nI 1) zs) ∧ (∃ zs, rowAt h 18 320 (nI 1) zs) ∧ (∃ zs, rowAt h 21 320 (nI 1) zs) ∧ (∃ zs, rowAt h 24 320 (nI 1) zs)
theorem rowAt.len {h : mH} {a room : Nat} {fl : Int32} {xs : List mIt} (H : rowAt h a room fl xs) : xs.length ≤ room ∧ room ≤ 320 := by
  obtain ⟨f, g, -, -, -, h1, h2, -⟩ := H
  exact ⟨h1, h2⟩
def eI : String := "java/lang/IndexOutOfBoundsException"
def eA : String := "java/lang/IllegalArgumentException"
/-- a call's end: kind (0 an answer, 1 no such place, 2 no such argument), answer, state -/
def cOk (o : Nat × Value × cS) (h : mH) (n : Nat) : Option Value → mH → Nat → Prop := fun v h' n' => o.1 = 0 ∧ v = some o.2.1 ∧ n' = n ∧ cAt h' o.2.2 ∧ ∀ j, 27 ≤ j → h' j = h j
def cNo (k : Nat) (h : mH) (n : Nat) : String → mH → Nat → Prop := fun E h' n' => ((E = eI ∧ k = 1) ∨ (E = eA ∧ k = 2)) ∧ h' = h ∧ n' = n
theorem cOk.of {o : Nat × Value × cS} {h h' : mH} {n n' : Nat} {x : Value} {S' : cS} {v : Option Value} (ho : o = (0, x, S')) (hv : v = some x) (hn : n' = n) (hc : cAt h' S') (hf : ∀ j, 27 ≤ j → h' j = h j) : cOk o h n v h' n' := by
  subst ho
  exact ⟨rfl, hv, hn, hc, hf⟩
theorem cNo.i {k : Nat} {h : mH} {n : Nat} (hk : k = 1) : cNo k h n eI h n := ⟨Or.inl ⟨rfl, hk⟩, rfl, rfl⟩
theorem cNo.a {k : Nat} {h : mH} {n : Nat} (hk : k = 2) : cNo k h n eA h n := ⟨Or.inr ⟨rfl, hk⟩, rfl, rfl⟩
/-- rows but one are as they were -/
theorem cRows {h h' : mH} {S : cS} {r : Nat} {ys : List mIt} (hR : ∀ k, k < 4 → rowAt h (2 + 3 * k) (rroom k) (mb (decide (k < 2))) (S.1 k)) (hr : r < 4) (hn : rowAt h' (2 + 3 * r) (rroom r) (mb (decide (r < 2))) ys) (hf : ∀ j, 2 ≤ j → j < 14 → (j < 2 + 3 * r ∨ 2 + 3 * r + 3 ≤ j) → h' j = h j) : ∀ k, k < 4 → rowAt h' (2 + 3 * k) (rroom k) (mb (decide (k < 2))) (if k = r then ys else S.1 k) := by
  intro k hk
  by_cases q : k = r
  · subst q; rw [if_pos rfl]; exact hn
  · rw [if_neg q]; exact (hR k hk).fr (fun j h1 h2 => hf j (by omega) (by omega) (by omega))
theorem cRows0 {h h' : mH} {S : cS} (hR : ∀ k, k < 4 → rowAt h (2 + 3 * k) (rroom k) (mb (decide (k < 2))) (S.1 k)) (hf : ∀ j, 2 ≤ j → j < 14 → h' j = h j) : ∀ k, k < 4 → rowAt h' (2 + 3 * k) (rroom k) (mb (decide (k < 2))) (S.1 k) := fun k hk => (hR k hk).fr (fun j h1 h2 => hf j (by omega) (by omega))
def keyOk (x : Int32) : Bool := !decide (x < -99999) && !decide (nI 99999 < x)
def dAt (S : cS) (k : Nat) (x : Int32) (f : Nat → Nat × Value × cS) : Nat × Value × cS := match inN k x with
  | none => (1, .null, S)
  | some j => f j
def dArg (S : cS) (k : Nat) (x : Int32) (f : Nat → Nat × Value × cS) : Nat × Value × cS := match inN k x with
  | none => (2, .null, S)
  | some j => f j
def dFit (S : cS) (b : Bool) (o : Nat × Value × cS) : Nat × Value × cS := if b = true then o else (2, .null, S)
theorem dAt_s {S : cS} {k j : Nat} {f : Nat → Nat × Value × cS} (hj : j < k) (hk : k < 2 ^ 31) : dAt S k (nI j) f = f j := by
  unfold dAt
  rw [inN_some hj hk]
theorem dAt_n {S : cS} {k : Nat} {x : Int32} {f : Nat → Nat × Value × cS} (h : inN k x = none) : dAt S k x f = (1, .null, S) := by
  unfold dAt
  rw [h]
theorem dArg_s {S : cS} {k j : Nat} {f : Nat → Nat × Value × cS} (hj : j < k) (hk : k < 2 ^ 31) : dArg S k (nI j) f = f j := by
  unfold dArg
  rw [inN_some hj hk]
theorem dArg_n {S : cS} {k : Nat} {x : Int32} {f : Nat → Nat × Value × cS} (h : inN k x = none) : dArg S k x f = (2, .null, S) := by
  unfold dArg
  rw [h]
theorem dFit_s {S : cS} {b : Bool} {o : Nat × Value × cS} (h : b = true) : dFit S b o = o := if_pos h
theorem dFit_n {S : cS} {b : Bool} {o : Nat × Value × cS} (h : b = false) : dFit S b o = (2, .null, S) := if_neg (by rw [h]; decide)
def nst (b : Bool) (g : Int32) : Int32 := if b = true then g else -1
def ngv (b : Bool) (g : Int32) : Int32 := if b = true then g + nI 1 else g
theorem mX_fit : ∀ x ∈ ["java/lang/RuntimeException", "java/lang/Exception"], Bundle.fit x = true := by
  intro x hx
  rcases List.mem_cons.mp hx with rfl | hx
  · decide +kernel
  · rcases List.mem_cons.mp hx with rfl | hx
    · decide +kernel
    · cases hx
theorem mX_at289 : ∀ w ∈ vx_atS RX2 289 eI ["java/lang/RuntimeException", "java/lang/Exception"], w ∈ mGw ∨ w ∈ mNw := mGN (by decide +kernel)
theorem mX_at239 : ∀ w ∈ vx_atS RX2 239 eA ["java/lang/RuntimeException", "java/lang/Exception"], w ∈ mGw ∨ w ∈ mNw := mGN (by decide +kernel)
theorem mX_ot289 : ∀ w ∈ Cond.classLink RX2 285 eI :: Cond.initialized eI :: vx_atS RX2 289 eI ["java/lang/RuntimeException", "java/lang/Exception"], vx_ot w = true := List.all_eq_true.mp (by decide +kernel)
theorem mX_ot239 : ∀ w ∈ Cond.classLink RX2 235 eA :: Cond.initialized eA :: vx_atS RX2 239 eA ["java/lang/RuntimeException", "java/lang/Exception"], vx_ot w = true := List.all_eq_true.mp (by decide +kernel)
theorem inN_0 {x : Int32} : inN 0 x = none := by
  by_cases h : x < 0
  · exact inN_neg h
  · exact inN_big h
theorem no_m1 {x : Int32} (h : ¬ x < 0) (h2 : x < -1) : False := by
  apply h
  rw [Int32.lt_iff_toInt_lt] at *
  have : (-1 : Int32).toInt = -1 := by decide
  have : (0 : Int32).toInt = 0 := by decide
  omega
theorem rowAt_put {h : mH} {a room i : Nat} {fl k s : Int32} {xs : List mIt} {f g : Nat → Int32} (e0 : h a = .inr (.inr (3, [.ref (a + 1), .ref (a + 2), .int fl, .int (nI xs.length)]))) (e1 : h (a + 1) = .inl (0, room, upd f i k)) (e2 : h (a + 2) = .inl (0, room, upd g i s)) (hi : i < xs.length) (hl : xs.length ≤ room) (hr : room ≤ 320) (hk : ∀ i, i < xs.length → f i = xk xs i) (ht : ∀ i, i < xs.length → g i = xt xs i) : rowAt h a room fl (xs.set i (k, s)) := by
  have e : (xs.set i (k, s)).length = xs.length := List.length_set
  refine ⟨_, _, by rw [e]; exact e0, e1, e2, by omega, hr, fun j hj => ?_, fun j hj => ?_⟩
  · rw [e] at hj
    rw [xk_put hi]
    unfold upd
    by_cases q : j = i
    · simp [q]
    · simp [q, hk j hj]
  · rw [e] at hj
    rw [xt_put hi]
    unfold upd
    by_cases q : j = i
    · simp [q]
    · simp [q, ht j hj]
/-- a row's items from a place down to the first -/
def rv (xs : List mIt) : Nat → List mIt
  | 0 => []
  | d + 1 => (xk xs d, xt xs d) :: rv xs d
theorem rv_go {xs ys : List mIt} {d : Nat} : (ys ++ [(xk xs d, xt xs d)]) ++ rv xs d = ys ++ rv xs (d + 1) := by rw [List.append_assoc]; rfl
theorem rv_len {xs : List mIt} : ∀ {d : Nat}, (rv xs d).length = d
  | 0 => rfl
  | d + 1 => by show (rv xs d).length + 1 = _; rw [rv_len]
/-- the key of a pattern at a place -/
def patKey (p k m : Nat) (a : Int32) (b : Nat) : Int32 := match p with
  | 1 => a + nI (k * b)
  | 2 => a - nI (k * b)
  | 3 => a + nI (k % b)
  | 4 => if k / b % 2 = 0 then a + nI (k % b) else a + nI b - nI 1 - nI (k % b)
  | 5 => a + nI (b * min k (m - 1 - k))
  | 6 => if k % 2 = 0 then a + nI (k / 2) else a + nI b - nI (k / 2)
  | _ => a
def drw (x : Int32) : Int32 := x * nI 25173 + nI 13849 - (x * nI 25173 + nI 13849) / nI 65536 * nI 65536
def drk (x : Int32) : Int32 := x - x / nI 512 * nI 512
def drx (a : Int32) (b : Nat) : Int32 := nI (1000 * b) + a + nI 999 - (nI (1000 * b) + a + nI 999) / nI 65536 * nI 65536
def aOk (x : Int32) : Bool := !decide (x < -999) && !decide (nI 999 < x)
/-- 1 .. 99 -/
def dB (S : cS) (x : Int32) (f : Nat → Nat × Value × cS) : Nat × Value × cS := if x < 1 ∨ nI 99 < x then (2, .null, S) else f x.toNatClampNeg
theorem dB_in {x : Int32} (h1 : ¬ x < 1) (h2 : ¬ nI 99 < x) : ∃ p, p < 100 ∧ 0 < p ∧ x = nI p := by
  have h0 : ¬ x < 0 := fun z => h1 (by
    rw [Int32.lt_iff_toInt_lt] at *
    have e0 : (0 : Int32).toInt = 0 := by decide
    have e1 : (1 : Int32).toInt = 1 := by decide
    omega)
  obtain ⟨p, hp, rfl⟩ := nI_of h0
  have h3 := (not_congr (nI_ltI (by decide) hp)).mp h2
  have h4 : ¬ p < 1 := fun z => h1 (nI_lt z (by decide))
  exact ⟨p, by omega, by omega, rfl⟩
theorem dB_s {S : cS} {p : Nat} {f : Nat → Nat × Value × cS} (hp : p < 100) (h0 : 0 < p) : dB S (nI p) f = f p := by
  unfold dB
  rw [if_neg, nI_clamp (by omega)]
  rintro (h | h)
  · exact nI_nlt (a := p) (b := 1) (by omega) (by omega) h
  · exact nI_nlt (a := 99) (b := p) (by omega) (by decide) h
theorem dB_n {S : cS} {x : Int32} {f : Nat → Nat × Value × cS} (h : x < 1 ∨ nI 99 < x) : dB S x f = (2, .null, S) := if_pos h
/-- the stamp of an item that comes from another row -/
def cst (t ft : Bool) (x g : Int32) : Int32 := if t = true then (if ft = true then x else g) else -1
def cgv (t ft : Bool) (g : Int32) : Int32 := if t = true then (if ft = true then g else g + nI 1) else g
def stBring (xs : List mIt) (t ft : Bool) (i : Nat) (p : List mIt × Int32) : List mIt × Int32 := (p.1 ++ [(xk xs i, cst t ft (xt xs i) p.2)], cgv t ft p.2)
/-- ys and behind it what comes of xs; the next stamp -/
def bringL (xs : List mIt) (t ft : Bool) (ys : List mIt) (g : Int32) : List mIt × Int32 := mlp (stBring xs t ft) (xs.length - 0) 0 (ys, g)
theorem xk_app_lt {xs zs : List mIt} {i : Nat} (h : i < xs.length) : xk (xs ++ zs) i = xk xs i := by
  unfold xk
  rw [List.getD_eq_getElem?_getD, List.getD_eq_getElem?_getD, List.getElem?_append_left h]
theorem xt_app_lt {xs zs : List mIt} {i : Nat} (h : i < xs.length) : xt (xs ++ zs) i = xt xs i := by
  unfold xt
  rw [List.getD_eq_getElem?_getD, List.getD_eq_getElem?_getD, List.getElem?_append_left h]
def stPat (p m : Nat) (a : Int32) (b : Nat) (bl : Bool) (k : Nat) (q : List mIt × Int32) : List mIt × Int32 := (q.1 ++ [(patKey p k m a b, nst bl q.2)], ngv bl q.2)
def stDrw (bl : Bool) (_ : Nat) (q : List mIt × Int32 × Int32) : List mIt × Int32 × Int32 := (q.1 ++ [(drk (drw q.2.2), nst bl q.2.1)], ngv bl q.2.1, drw q.2.2)
theorem bt_nf {b : Bool} (h : b = true) : ¬ b = false := by rw [h]; decide
theorem bringL_len {xs : List mIt} {t ft : Bool} {ys : List mIt} {g : Int32} : (bringL xs t ft ys g).1.length = ys.length + xs.length := by
  have h : ∀ (d i : Nat) (ys : List mIt) (g : Int32), (mlp (stBring xs t ft) d i (ys, g)).1.length = ys.length + d := by
    intro d
    induction d with
    | zero => intro i ys g; rfl
    | succ d ih =>
      intro i ys g
      refine (ih (i + 1) (ys ++ [(xk xs i, cst t ft (xt xs i) g)]) (cgv t ft g)).trans ?_
      simp only [List.length_append, List.length_cons, List.length_nil]
      omega
  exact h _ _ _ _
/-- two sorted rows, joined, woven; the second one begins at m -/
def weave (xs : List mIt) (m : Nat) : List mIt := List.merge (span xs 0 m) (span xs m xs.length) wle
theorem weave_len {xs : List mIt} {m : Nat} (h : m ≤ xs.length) : (weave xs m).length = xs.length := by
  unfold weave
  rw [List.length_merge, span_len h, span_len (Nat.le_refl _)]
  omega
theorem inN_no {k : Nat} {x : Int32} (h : inN k x = none) (hk : k < 2 ^ 31) : x.toInt < 0 ∨ (k : Int) - 1 < x.toInt := by
  unfold inN at h
  split at h
  · rename_i q
    rcases q with q | q
    · left
      have := Int32.lt_iff_toInt_lt.mp q
      have e0 : (0 : Int32).toInt = 0 := by decide
      omega
    · right
      rw [Int32.lt_iff_toInt_lt, nI_toInt hk] at q
      omega
  · cases h
theorem cNo_no {k : Nat} {h : mH} {n : Nat} {E : String} {h' : mH} {n' : Nat} (hk : k = 0) (hx : cNo k h n E h' n') : False := by
  subst hk
  rcases hx.1 with ⟨-, q⟩ | ⟨-, q⟩ <;> cases q
theorem cOk.use {o : Nat × Value × cS} {h h' : mH} {n n' : Nat} {x : Value} {S' : cS} {v : Option Value} (hc : cOk o h n v h' n') (ho : o = (0, x, S')) : v = some x ∧ n' = n ∧ cAt h' S' ∧ ∀ j, 27 ≤ j → h' j = h j := by
  subst ho
  exact hc.2
