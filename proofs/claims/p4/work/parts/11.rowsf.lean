/-! ===== rows as the walker uses them: heaps by what they hold, numbers named ===== -/
theorem mI_pos {k : Nat} : Int32.ofInt (k : Int) = nI k := rfl
theorem mI_inc {i : Nat} : nI i + Int32.ofInt 1 = nI (i + 1) := nI_1 i
theorem mI_dec {i : Nat} (h : 0 < i) : nI i + Int32.ofInt (-1) = nI (i - 1) := by
  obtain ⟨j, rfl⟩ : ∃ j, i = j + 1 := ⟨i - 1, by omega⟩
  have := nI_pred j
  rw [Nat.add_sub_cancel, ← this, Int32.sub_eq_add_neg]
  rfl
theorem mI_eq0 {k : Nat} (h : k < 2 ^ 31) : nI k = 0 ↔ k = 0 := nI_eq h (by decide)
theorem mI_le0 {k : Nat} (h : k < 2 ^ 31) : nI k ≤ 0 ↔ k ≤ 0 := nI_leI h (by decide)
theorem mI_gt0 {k : Nat} (h : k < 2 ^ 31) : 0 < nI k ↔ 0 < k := nI_ltI (by decide) h
theorem mI_lt0 {k : Nat} (h : k < 2 ^ 31) : nI k < 0 ↔ False := ⟨fun q => nI_pos h q, False.elim⟩
theorem mI_ge0 {k : Nat} (h : k < 2 ^ 31) : 0 ≤ nI k ↔ True := ⟨fun _ => trivial, fun _ => nI_pos' h⟩
theorem mI_mul (a b : Nat) : nI a * nI b = nI (a * b) := (Int32.ofNat_mul a b).symm
section MTF
variable {l : Launch} {M : mM} {R : Room} {K : mK} {pc : Nat} {ls st : List Value} {h : mH} {n cc sc : Nat}
theorem mp_iadd {x y v : Int32} (hdg : decode M.2.1 pc = .ok (.iadd, 1)) (hv : x + y = v) (k : mT l M R K (pc + 1) ls (.int v :: st) h n cc sc) : mT l M R K pc ls (.int y :: .int x :: st) h n cc sc := mt_iadd hdg (by rw [hv]; exact k)
theorem mp_isub {x y v : Int32} (hdg : decode M.2.1 pc = .ok (.isub, 1)) (hv : x - y = v) (k : mT l M R K (pc + 1) ls (.int v :: st) h n cc sc) : mT l M R K pc ls (.int y :: .int x :: st) h n cc sc := mt_isub hdg (by rw [hv]; exact k)
theorem mp_imul {x y v : Int32} (hdg : decode M.2.1 pc = .ok (.imul, 1)) (hv : x * y = v) (k : mT l M R K (pc + 1) ls (.int v :: st) h n cc sc) : mT l M R K pc ls (.int y :: .int x :: st) h n cc sc := mt_imul hdg (by rw [hv]; exact k)
theorem mp_idiv {x y v : Int32} (hdg : decode M.2.1 pc = .ok (.idiv, 1)) (hne : ¬ y = 0) (hv : x / y = v) (k : mT l M R K (pc + 1) ls (.int v :: st) h n cc sc) : mT l M R K pc ls (.int y :: .int x :: st) h n cc sc := mt_idiv hdg hne (by rw [hv]; exact k)
theorem mp_irem {x y v : Int32} (hdg : decode M.2.1 pc = .ok (.irem, 1)) (hne : ¬ y = 0) (hv : x - x / y * y = v) (k : mT l M R K (pc + 1) ls (.int v :: st) h n cc sc) : mT l M R K pc ls (.int y :: .int x :: st) h n cc sc := mt_irem hdg hne (by rw [hv]; exact k)
theorem mp_istore {i : Nat} {x : Int32} {ls' : List Value} (hdg : decode M.2.1 pc = .ok (.istore i, 2)) (hls : ls.set i (.int x) = ls') (hn : i < M.2.2.1) (hg : mnl ls i = true) (k : mT l M R K (pc + 2) ls' st h n cc sc) : mT l M R K pc ls (.int x :: st) h n cc sc := mt_istore hdg hn hg (by rw [hls]; exact k)
theorem mp_istore_n {k0 : Fin 4} {x : Int32} {ls' : List Value} (hdg : decode M.2.1 pc = .ok (.istore_n k0, 1)) (hls : ls.set (k0 : Nat) (.int x) = ls') (hn : (k0 : Nat) < M.2.2.1) (hg : mnl ls (k0 : Nat) = true) (k : mT l M R K (pc + 1) ls' st h n cc sc) : mT l M R K pc ls (.int x :: st) h n cc sc := mt_istore_n hdg hn hg (by rw [hls]; exact k)
theorem mp_lstore {i : Nat} {x : Int64} {ls' : List Value} (hdg : decode M.2.1 pc = .ok (.lstore i, 2)) (hls : (ls.set i (.long x)).set (i + 1) (.double 0) = ls') (hn : i + 1 < M.2.2.1) (hg : mnl ls i = true) (k : mT l M R K (pc + 2) ls' st h n cc sc) : mT l M R K pc ls (.long x :: st) h n cc sc := mt_lstore hdg hn hg (by rw [hls]; exact k)
theorem mp_lstore_n {k0 : Fin 4} {x : Int64} {ls' : List Value} (hdg : decode M.2.1 pc = .ok (.lstore_n k0, 1)) (hls : (ls.set (k0 : Nat) (.long x)).set ((k0 : Nat) + 1) (.double 0) = ls') (hn : (k0 : Nat) + 1 < M.2.2.1) (hg : mnl ls (k0 : Nat) = true) (k : mT l M R K (pc + 1) ls' st h n cc sc) : mT l M R K pc ls (.long x :: st) h n cc sc := mt_lstore_n hdg hn hg (by rw [hls]; exact k)
theorem mp_astore {i : Nat} {v : Value} {ls' : List Value} (hdg : decode M.2.1 pc = .ok (.astore i, 2)) (hls : ls.set i v = ls') (hv : mir v = true) (hn : i < M.2.2.1) (hg : mnl ls i = true) (k : mT l M R K (pc + 2) ls' st h n cc sc) : mT l M R K pc ls (v :: st) h n cc sc := mt_astore hdg hv hn hg (by rw [hls]; exact k)
theorem mp_astore_n {k0 : Fin 4} {v : Value} {ls' : List Value} (hdg : decode M.2.1 pc = .ok (.astore_n k0, 1)) (hls : ls.set (k0 : Nat) v = ls') (hv : mir v = true) (hn : (k0 : Nat) < M.2.2.1) (hg : mnl ls (k0 : Nat) = true) (k : mT l M R K (pc + 1) ls' st h n cc sc) : mT l M R K pc ls (v :: st) h n cc sc := mt_astore_n hdg hv hn hg (by rw [hls]; exact k)
theorem mp_iinc {i : Nat} {q : Int} {x v : Int32} {ls' : List Value} (hdg : decode M.2.1 pc = .ok (.iinc i q, 3)) (hl : ls[i]? = some (.int x)) (hv : x + Int32.ofInt q = v) (hls : ls.set i (.int v) = ls') (hn : i < M.2.2.1) (hg : mnl ls i = true) (k : mT l M R K (pc + 3) ls' st h n cc sc) : mT l M R K pc ls st h n cc sc := mt_iinc hdg hl hv hn hg (by rw [hls]; exact k)
theorem mp_putfield {a ci i : Nat} {C : String} {T : u_T} {N index : Nat} {ty0 : Nat → FieldType} {fs fs' : List Value} {v : Value} (hc : mCl ci C T N ty0) (hk : i < N) (hlink : Cond.fieldLink M.1.cls index (T i).1 (T i).2.1 (T i).2.2.1 ∈ mGw) (hfin : (T i).2.2.2 = false) (hdg : decode M.2.1 pc = .ok (.putfield index, 3)) (he : h a = .inr (.inr (ci, fs))) (hl : i < fs.length) (hfs : fs.set i v = fs') (hf : mfit (ty0 i) v = true) (k : ∀ h' : mH, h' a = .inr (.inr (ci, fs')) → (∀ j, j ≠ a → h' j = h j) → mT l M R K (pc + 3) ls st h' n cc sc) : mT l M R K pc ls (v :: .ref a :: st) h n cc sc := mt_putfield hc hk hlink hfin hdg he hl hf (by subst hfs; exact k _ mup_s (fun j hj => mup_n hj))
theorem mp_putfieldN {a ci i : Nat} {C host : String} {T : u_T} {N index : Nat} {ty0 : Nat → FieldType} {fs fs' : List Value} {v : Value} (hc : mCl ci C T N ty0) (hk : i < N) (hlink : Cond.fieldLinkNest M.1.cls index (T i).1 (T i).2.1 (T i).2.2.1 host ∈ mNw) (hfin : (T i).2.2.2 = false) (hdg : decode M.2.1 pc = .ok (.putfield index, 3)) (he : h a = .inr (.inr (ci, fs))) (hl : i < fs.length) (hfs : fs.set i v = fs') (hf : mfit (ty0 i) v = true) (k : ∀ h' : mH, h' a = .inr (.inr (ci, fs')) → (∀ j, j ≠ a → h' j = h j) → mT l M R K (pc + 3) ls st h' n cc sc) : mT l M R K pc ls (v :: .ref a :: st) h n cc sc := mt_putfieldN hc hk hlink hfin hdg he hl hf (by subst hfs; exact k _ mup_s (fun j hj => mup_n hj))
theorem mp_putfinal {a ci i : Nat} {C : String} {T : u_T} {N index : Nat} {ty0 : Nat → FieldType} {fs fs' : List Value} {v : Value} (hc : mCl ci C T N ty0) (hk : i < N) (hlink : Cond.fieldLink M.1.cls index (T i).1 (T i).2.1 (T i).2.2.1 ∈ mGw) (hfin : (T i).2.2.2 = true) (hin : M.1.name = "<init>") (hdecl : (T i).1 = M.1.cls) (hdg : decode M.2.1 pc = .ok (.putfield index, 3)) (he : h a = .inr (.inr (ci, fs))) (hl : i < fs.length) (hfs : fs.set i v = fs') (hf : mfit (ty0 i) v = true) (k : ∀ h' : mH, h' a = .inr (.inr (ci, fs')) → (∀ j, j ≠ a → h' j = h j) → mT l M R K (pc + 3) ls st h' n cc sc) : mT l M R K pc ls (v :: .ref a :: st) h n cc sc := mt_putfinal hc hk hlink hfin hin hdecl hdg he hl hf (by subst hfs; exact k _ mup_s (fun j hj => mup_n hj))
theorem mp_iaload {a len j : Nat} {i v : Int32} {f : Nat → Int32} (hdg : decode M.2.1 pc = .ok (.iaload, 1)) (he : h a = .inl (0, len, f)) (hi : i = nI j) (hj : j < len) (hL : len < 2 ^ 31) (hv : f j = v) (k : mT l M R K (pc + 1) ls (.int v :: st) h n cc sc) : mT l M R K pc ls (.int i :: .ref a :: st) h n cc sc := mt_iaload hdg he hi hj hL (by rw [hv]; exact k)
theorem mp_iastore {a len j : Nat} {i x : Int32} {f : Nat → Int32} (hdg : decode M.2.1 pc = .ok (.iastore, 1)) (he : h a = .inl (0, len, f)) (hi : i = nI j) (hj : j < len) (hL : len < 2 ^ 31) (k : ∀ h' : mH, h' a = .inl (0, len, upd f j x) → (∀ j, j ≠ a → h' j = h j) → mT l M R K (pc + 1) ls st h' n cc sc) : mT l M R K pc ls (.int x :: .int i :: .ref a :: st) h n cc sc := mt_iastore hdg he hi hj hL (k _ mup_s (fun j hj => mup_n hj))
theorem mp_newarray {x : Int32} {len : Nat} (hdg : decode M.2.1 pc = .ok (.newarray .int, 2)) (harr : Cond.arrayClass .int ∈ mGw) (hx : x = nI len) (hL : len < 2 ^ 27) (hcc : cc + 1 ≤ R.cells) (hsc : sc + len ≤ R.slots) (k : ∀ h' : mH, h' n = .inl (0, len, fun _ => 0) → (∀ j, j ≠ n → h' j = h j) → mT l M R K (pc + 2) ls (.ref n :: st) h' (n + 1) (cc + 1) (sc + len)) : mT l M R K pc ls (.int x :: st) h n cc sc := mt_newarray hdg harr hx hL hcc hsc (k _ mup_s (fun j hj => mup_n hj))
theorem mp_anewrow {x : Int32} {len index : Nat} (hdg : decode M.2.1 pc = .ok (.anewarray index, 3)) (hlk : Cond.classLink M.1.cls index "Runweaver$Row" ∈ mGw) (hx : x = nI len) (hL : len < 2 ^ 27) (hcc : cc + 1 ≤ R.cells) (hsc : sc + len ≤ R.slots) (k : ∀ h' : mH, h' n = .inr (.inl (2, len, fun _ => none)) → (∀ j, j ≠ n → h' j = h j) → mT l M R K (pc + 3) ls (.ref n :: st) h' (n + 1) (cc + 1) (sc + len)) : mT l M R K pc ls (.int x :: st) h n cc sc := mt_anewrow hdg hlk hx hL hcc hsc (k _ mup_s (fun j hj => mup_n hj))
theorem mp_new {ci index : Nat} {C : String} {T : u_T} {N : Nat} {ty0 : Nat → FieldType} {fs : List Value} (hc : mCl ci C T N ty0) (hdg : decode M.2.1 pc = .ok (.new index, 3)) (hlk : Cond.classLink M.1.cls index C ∈ mGw) (hins : Cond.instantiable C N ∈ mGw) (hini : Cond.initialized C ∈ mGw) (hfs : ∀ j, j < N → defaultValue (ty0 j) = vp_V fs j) (hfv : ∀ v ∈ fs, (∃ x, v = .int x) ∨ (∃ x, v = .long x) ∨ v = .null) (hcc : cc + 1 ≤ R.cells) (hsc : sc + N ≤ R.slots) (k : ∀ h' : mH, h' n = .inr (.inr (ci, fs)) → (∀ j, j ≠ n → h' j = h j) → mT l M R K (pc + 3) ls (.ref n :: st) h' (n + 1) (cc + 1) (sc + N)) : mT l M R K pc ls st h n cc sc := mt_new hc hdg hlk hins hini hfs hfv hcc hsc (k _ mup_s (fun j hj => mup_n hj))
theorem mp_aastoreR {a b2 len j : Nat} {i : Int32} {g : Nat → Option Nat} {fs : List Value} (hdg : decode M.2.1 pc = .ok (.aastore, 1)) (he : h a = .inr (.inl (2, len, g))) (hv : h b2 = .inr (.inr (3, fs))) (hi : i = nI j) (hj : j < len) (hL : len < 2 ^ 31) (k : ∀ h' : mH, h' a = .inr (.inl (2, len, va_up g j (some b2))) → (∀ j, j ≠ a → h' j = h j) → mT l M R K (pc + 1) ls st h' n cc sc) : mT l M R K pc ls (.ref b2 :: .int i :: .ref a :: st) h n cc sc := mt_aastoreR hdg he hv hi hj hL (k _ mup_s (fun j hj => mup_n hj))
theorem mp_aastoreA {a b2 len len2 j : Nat} {i : Int32} {g : Nat → Option Nat} {f : Nat → Int32} (hdg : decode M.2.1 pc = .ok (.aastore, 1)) (he : h a = .inr (.inl (3, len, g))) (hv : h b2 = .inl (0, len2, f)) (hi : i = nI j) (hj : j < len) (hL : len < 2 ^ 31) (k : ∀ h' : mH, h' a = .inr (.inl (3, len, va_up g j (some b2))) → (∀ j, j ≠ a → h' j = h j) → mT l M R K (pc + 1) ls st h' n cc sc) : mT l M R K pc ls (.ref b2 :: .int i :: .ref a :: st) h n cc sc := mt_aastoreA hdg he hv hi hj hL (k _ mup_s (fun j hj => mup_n hj))
theorem mp_acopy {a b la lb sp dp cnt index : Nat} {f g : Nat → Int32} {xs xd xn : Int32} (hdg : decode M.2.1 pc = .ok (.invokestatic index, 3)) (hlk : Cond.methodLink M.1.cls index arraycopyName ∈ mGw) (hnat : Cond.native arraycopyName ∈ mGw) (hst : Cond.static arraycopyName ∈ mGw) (hini : Cond.initialized "java/lang/System" ∈ mGw) (ha : h a = .inl (0, la, f)) (hb : h b = .inl (0, lb, g)) (h1 : xs = nI sp) (h2 : xd = nI dp) (h3 : xn = nI cnt) (h4 : sp + cnt ≤ la) (h5 : dp + cnt ≤ lb) (hla : la < 2 ^ 31) (hlb : lb < 2 ^ 31) (hw : (st.map mcw).sum ≤ 8) (hR : 1 ≤ R.frames ∧ 8 + 18 ≤ R.locals) (k : ∀ h' : mH, h' b = .inl (0, lb, va_cpy f g sp dp cnt) → (∀ j, j ≠ b → h' j = h j) → mT l M R K (pc + 3) ls st h' n cc sc) : mT l M R K pc ls (.int xn :: .int xd :: .ref b :: .int xs :: .ref a :: st) h n cc sc := mt_acopy hdg hlk hnat hst hini ha hb h1 h2 h3 h4 h5 hla hlb hw hR (k _ mup_s (fun j hj => mup_n hj))
end MTF
/-! ===== loops as functions ===== -/
def mlp {α : Type} (f : Nat → α → α) : Nat → Nat → α → α
  | 0, _, a => a
  | d + 1, i, a => mlp f d (i + 1) (f i a)
theorem mlp_go {α : Type} {f : Nat → α → α} {N i : Nat} {a b : α} (h : i < N) (hb : f i a = b) : mlp f (N - i) i a = mlp f (N - (i + 1)) (i + 1) b := by
  rw [show N - i = (N - (i + 1)) + 1 by omega, ← hb]
  rfl
theorem mlp_end {α : Type} {f : Nat → α → α} {N i : Nat} {a : α} (h : ¬ i < N) : mlp f (N - i) i a = a := by
  rw [show N - i = 0 by omega]
  rfl
theorem mlp_congr {α : Type} {f g : Nat → α → α} : ∀ {d i : Nat} {a : α}, (∀ j b, i ≤ j → j < i + d → f j b = g j b) → mlp f d i a = mlp g d i a
  | 0, _, _, _ => rfl
  | d + 1, i, a, h => by
    show mlp f d (i + 1) (f i a) = mlp g d (i + 1) (g i a)
    rw [h i a (Nat.le_refl _) (by omega)]
    exact mlp_congr (fun j b h1 h2 => h j b (by omega) (by omega))
def mall (p : Nat → Bool) : Nat → Nat → Bool
  | 0, _ => true
  | d + 1, i => p i && mall p d (i + 1)
theorem mall_go {p : Nat → Bool} {N i : Nat} (h : i < N) (hb : p i = true) : mall p (N - i) i = mall p (N - (i + 1)) (i + 1) := by
  rw [show N - i = (N - (i + 1)) + 1 by omega]
  show (p i && _) = _
  rw [hb, Bool.true_and]
theorem mall_no {p : Nat → Bool} {N i : Nat} (h : i < N) (hb : p i = false) : mall p (N - i) i = false := by
  rw [show N - i = (N - (i + 1)) + 1 by omega]
  show (p i && _) = _
  rw [hb, Bool.false_and]
theorem mall_end {p : Nat → Bool} {N i : Nat} (h : ¬ i < N) : mall p (N - i) i = true := by
  rw [show N - i = 0 by omega]
  rfl
/-! ===== rows of items ===== -/
abbrev mIt : Type := Int32 × Int32
def xk (xs : List mIt) (i : Nat) : Int32 := (xs.getD i (0, 0)).1
def xt (xs : List mIt) (i : Nat) : Int32 := (xs.getD i (0, 0)).2
/-- a row of the class: its object at a, its keys, its stamps; room, whether of things, its items -/
def rowAt (h : mH) (a room : Nat) (fl : Int32) (xs : List mIt) : Prop := ∃ f g : Nat → Int32, h a = .inr (.inr (3, [.ref (a + 1), .ref (a + 2), .int fl, .int (nI xs.length)])) ∧ h (a + 1) = .inl (0, room, f) ∧ h (a + 2) = .inl (0, room, g) ∧ xs.length ≤ room ∧ room ≤ 320 ∧ (∀ i, i < xs.length → f i = xk xs i) ∧ (∀ i, i < xs.length → g i = xt xs i)
theorem rowAt.fr {h h' : mH} {b room : Nat} {fl : Int32} {xs : List mIt} (H : rowAt h b room fl xs) (hf : ∀ j, b ≤ j → j < b + 3 → h' j = h j) : rowAt h' b room fl xs := by
  obtain ⟨f, g, e0, e1, e2, e3⟩ := H
  exact ⟨f, g, (hf _ (by omega) (by omega)).trans e0, (hf _ (by omega) (by omega)).trans e1, (hf _ (by omega) (by omega)).trans e2, e3⟩
/-- ends: an int, nothing, a truth; the heap as it was -/
def mRi (r : Int32) (h : mH) (n : Nat) : Option Value → mH → Nat → Prop := fun v h' n' => v = some (.int r) ∧ h' = h ∧ n' = n
def mNX : String → mH → Nat → Prop := fun _ _ _ => False
def mb (b : Bool) : Int32 := if b then 1 else 0
theorem mb_0 {b : Bool} : mb b = 0 ↔ b = false := by cases b <;> decide
theorem mb_1 {b : Bool} : ¬ mb b = 0 ↔ b = true := by cases b <;> decide
theorem narrow_mb {b : Bool} : narrow .boolean (.int (mb b)) = .int (mb b) := by cases b <;> rfl
theorem mI_min {x y : Nat} (hx : x < 2 ^ 31) (hy : y < 2 ^ 31) : (if nI y < nI x then nI y else nI x) = nI (min x y) := by
  by_cases q : y < x
  · rw [if_pos (nI_lt q hx), Nat.min_eq_right (Nat.le_of_lt q)]
  · rw [if_neg (nI_nlt (by omega) hy), Nat.min_eq_left (by omega)]
theorem mI_max {x y : Nat} (hx : x < 2 ^ 31) (hy : y < 2 ^ 31) : (if nI x < nI y then nI y else nI x) = nI (max x y) := by
  by_cases q : x < y
  · rw [if_pos (nI_lt q hy), Nat.max_eq_right (Nat.le_of_lt q)]
  · rw [if_neg (nI_nlt (by omega) hx), Nat.max_eq_left (by omega)]
theorem mI_ne0 {b : Nat} (h : 0 < b) (hb : b < 2 ^ 31) : ¬ nI b = 0 := nI_ne0 h hb
theorem mw_min : Cond.code Lib.Math.min.name Lib.Math.min.code 2 (some .int) ∈ mGw := mGw_of (by decide +kernel) rfl
theorem mw_max : Cond.code Lib.Math.max.name Lib.Math.max.code 2 (some .int) ∈ mGw := mGw_of (by decide +kernel) rfl
theorem mI_one : nI 1 = 1 := rfl
section MTG
variable {l : Launch} {M : mM} {R : Room} {K : mK} {pc : Nat} {ls st : List Value} {h : mH} {n cc sc : Nat}
theorem mt_drop (i : Nat) {ls' : List Value} (hls : ls.set i (.double 0) = ls') (k : mT l M R K pc ls' st h n cc sc) : mT l M R K pc ls st h n cc sc := by
  subst hls
  intro p e s m args below meth c G w0 H locs LS ws st' hC hD
  obtain ⟨d1, d2, d3, d4, d5, ⟨lv, d6, d8⟩, d7⟩ := hD
  refine k p e s m args below meth c G w0 H locs LS ws st' hC ⟨d1, d2, d3, d4, d5, ⟨lv, d6, fun j w hj => ?_⟩, d7⟩
  by_cases q : j = i
  · subst q
    have hl := (List.getElem?_eq_some_iff.mp hj).1
    rw [List.length_set] at hl
    rw [List.getElem?_set_self hl] at hj
    cases hj
    exact Or.inl ⟨0, rfl⟩
  · rw [List.getElem?_set_ne (Ne.symm q)] at hj
    exact d8 j w hj
end MTG
/-- ends: nothing is answered, the row at a holds ys, all else is as it was -/
def mRw (a room : Nat) (fl : Int32) (ys : List mIt) (h : mH) (n : Nat) : Option Value → mH → Nat → Prop := fun v h' n' => v = none ∧ n' = n ∧ rowAt h' a room fl ys ∧ ∀ j, (j < a ∨ a + 3 ≤ j) → h' j = h j
theorem xk_snoc_lt {xs : List mIt} {p : mIt} {i : Nat} (h : i < xs.length) : xk (xs ++ [p]) i = xk xs i := by
  unfold xk
  rw [List.getD_eq_getElem?_getD, List.getD_eq_getElem?_getD, List.getElem?_append_left h]
theorem xt_snoc_lt {xs : List mIt} {p : mIt} {i : Nat} (h : i < xs.length) : xt (xs ++ [p]) i = xt xs i := by
  unfold xt
  rw [List.getD_eq_getElem?_getD, List.getD_eq_getElem?_getD, List.getElem?_append_left h]
theorem xk_snoc {xs : List mIt} {p : mIt} : xk (xs ++ [p]) xs.length = p.1 := by
  unfold xk
  rw [List.getD_eq_getElem?_getD, List.getElem?_append_right (Nat.le_refl _), Nat.sub_self]
  rfl
theorem xt_snoc {xs : List mIt} {p : mIt} : xt (xs ++ [p]) xs.length = p.2 := by
  unfold xt
  rw [List.getD_eq_getElem?_getD, List.getElem?_append_right (Nat.le_refl _), Nat.sub_self]
  rfl
theorem rowAt.snoc {h : mH} {a room : Nat} {fl k s : Int32} {xs : List mIt} {f g : Nat → Int32} (e0 : h a = .inr (.inr (3, [.ref (a + 1), .ref (a + 2), .int fl, .int (nI (xs.length + 1))]))) (e1 : h (a + 1) = .inl (0, room, upd f xs.length k)) (e2 : h (a + 2) = .inl (0, room, upd g xs.length s)) (hl : xs.length < room) (hr : room ≤ 320) (hk : ∀ i, i < xs.length → f i = xk xs i) (ht : ∀ i, i < xs.length → g i = xt xs i) : rowAt h a room fl (xs ++ [(k, s)]) := by
  have e : (xs ++ [(k, s)]).length = xs.length + 1 := by simp
  refine ⟨_, _, by rw [e]; exact e0, e1, e2, by omega, hr, fun i hi => ?_, fun i hi => ?_⟩
  · rw [e] at hi
    by_cases q : i = xs.length
    · subst q; rw [xk_snoc]; simp [upd]
    · rw [xk_snoc_lt (by omega), ← hk i (by omega)]; simp [upd, q]
  · rw [e] at hi
    by_cases q : i = xs.length
    · subst q; rw [xt_snoc]; simp [upd]
    · rw [xt_snoc_lt (by omega), ← ht i (by omega)]; simp [upd, q]
theorem mlp_le {f : Nat → Nat → Nat} (h : ∀ j a, f j a ≤ a + 1) : ∀ {d i a : Nat}, mlp f d i a ≤ a + d
  | 0, _, _ => Nat.le_refl _
  | d + 1, i, a => by
    have h1 := @mlp_le f h d (i + 1) (f i a)
    have h2 := h i a
    show mlp f d (i + 1) (f i a) ≤ _
    omega
/-- the end of the run that goes on at e -/
def erun (xs : List mIt) : Nat → Nat → Nat
  | 0, e => e
  | d + 1, e => if xk xs e < xk xs (e - 1) then e else erun xs d (e + 1)
theorem erun_go {xs : List mIt} {N e : Nat} (h : e < N) (hb : ¬ xk xs e < xk xs (e - 1)) : erun xs (N - e) e = erun xs (N - (e + 1)) (e + 1) := by
  rw [show N - e = (N - (e + 1)) + 1 by omega]
  exact if_neg hb
theorem erun_no {xs : List mIt} {N e : Nat} (h : e < N) (hb : xk xs e < xk xs (e - 1)) : erun xs (N - e) e = e := by
  rw [show N - e = (N - (e + 1)) + 1 by omega]
  exact if_pos hb
theorem erun_end {xs : List mIt} {N e : Nat} (h : ¬ e < N) : erun xs (N - e) e = e := by
  rw [show N - e = 0 by omega]
  rfl
theorem erun_le {xs : List mIt} : ∀ {d e : Nat}, e ≤ erun xs d e ∧ erun xs d e ≤ e + d
  | 0, _ => ⟨Nat.le_refl _, Nat.le_refl _⟩
  | d + 1, e => by
    have h1 := @erun_le xs d (e + 1)
    show e ≤ (if _ then e else erun xs d (e + 1)) ∧ (if _ then e else erun xs d (e + 1)) ≤ _
    split <;> omega
def mff (p : Nat → Bool) : Nat → Nat → Int32
  | 0, _ => -1
  | d + 1, i => if p i = true then nI i else mff p d (i + 1)
theorem mff_go {p : Nat → Bool} {N i : Nat} (h : i < N) (hb : p i = false) : mff p (N - i) i = mff p (N - (i + 1)) (i + 1) := by
  rw [show N - i = (N - (i + 1)) + 1 by omega]
  exact if_neg (by rw [hb]; decide)
theorem mff_yes {p : Nat → Bool} {N i : Nat} (h : i < N) (hb : p i = true) : mff p (N - i) i = nI i := by
  rw [show N - i = (N - (i + 1)) + 1 by omega]
  exact if_pos hb
theorem mff_end {p : Nat → Bool} {N i : Nat} (h : ¬ i < N) : mff p (N - i) i = -1 := by
  rw [show N - i = 0 by omega]
  rfl
def mfl (p : Nat → Bool) : Nat → Int32
  | 0 => -1
  | d + 1 => if p d = true then nI d else mfl p d
/-- a place that is counted down: d - 1, or -1 -/
def mpr (d : Nat) : Int32 := nI d - 1
theorem mpr_0 : mpr 0 = -1 := rfl
theorem mpr_s {d : Nat} : mpr (d + 1) = nI d := nI_pred d
theorem mpr_dec {d : Nat} : nI d + Int32.ofInt (-1) = mpr d := by
  unfold mpr
  rw [Int32.sub_eq_add_neg]
  rfl
/-- a row's items from a place on up to another -/
def span (ys : List mIt) (i e : Nat) : List mIt := (ys.take e).drop i
theorem xk_get {ys : List mIt} {i : Nat} (h : i < ys.length) : ys[i] = (xk ys i, xt ys i) := by
  unfold xk xt
  rw [List.getD_eq_getElem?_getD, List.getElem?_eq_getElem h]
  rfl
theorem span_cons {ys : List mIt} {i e : Nat} (h : i < e) (he : e ≤ ys.length) : span ys i e = (xk ys i, xt ys i) :: span ys (i + 1) e := by
  unfold span
  have h1 : i < (ys.take e).length := by rw [List.length_take]; omega
  rw [List.drop_eq_getElem_cons h1, List.getElem_take, xk_get (by omega)]
theorem span_go {xs ys : List mIt} {i e : Nat} (h : i < e) (he : e ≤ ys.length) : (xs ++ [(xk ys i, xt ys i)]) ++ span ys (i + 1) e = xs ++ span ys i e := by
  rw [span_cons h he, List.append_assoc]
  rfl
theorem span_end {xs ys : List mIt} {i e : Nat} (h : ¬ i < e) : xs ++ span ys i e = xs := by
  unfold span
  rw [List.drop_eq_nil_of_le (by rw [List.length_take]; omega), List.append_nil]
theorem span_len {ys : List mIt} {i e : Nat} (he : e ≤ ys.length) : (span ys i e).length = e - i := by
  unfold span
  rw [List.length_drop, List.length_take]
  omega
theorem span_all {ys : List mIt} : span ys 0 ys.length = ys := by
  unfold span
  rw [List.drop_zero, List.take_length]
theorem rowAt.copied {h : mH} {a room c : Nat} {fl : Int32} {ys : List mIt} {f g f2 g2 : Nat → Int32} (e0 : h a = .inr (.inr (3, [.ref (a + 1), .ref (a + 2), .int fl, .int (nI c)]))) (e1 : h (a + 1) = .inl (0, room, va_cpy f2 f 0 0 c)) (e2 : h (a + 2) = .inl (0, room, va_cpy g2 g 0 0 c)) (hc : c = ys.length) (hl : ys.length ≤ room) (hr : room ≤ 320) (hk : ∀ i, i < ys.length → f2 i = xk ys i) (ht : ∀ i, i < ys.length → g2 i = xt ys i) : rowAt h a room fl ys := by
  subst hc
  refine ⟨_, _, e0, e1, e2, hl, hr, fun i hi => ?_, fun i hi => ?_⟩
  · rw [← hk i hi]; unfold va_cpy; rw [if_pos ⟨Nat.zero_le _, by omega⟩]; congr 1; omega
  · rw [← ht i hi]; unfold va_cpy; rw [if_pos ⟨Nat.zero_le _, by omega⟩]; congr 1; omega
/-- a row with one item changed -/
def xput (xs : List mIt) (i : Nat) (p : mIt) : List mIt := xs.set i p
theorem xk_put {xs : List mIt} {i j : Nat} {p : mIt} (h : i < xs.length) : xk (xs.set i p) j = if j = i then p.1 else xk xs j := by
  unfold xk
  rw [List.getD_eq_getElem?_getD, List.getD_eq_getElem?_getD]
  by_cases q : j = i
  · subst q; rw [List.getElem?_set_self h, if_pos rfl]; rfl
  · rw [List.getElem?_set_ne (Ne.symm q), if_neg q]
theorem xt_put {xs : List mIt} {i j : Nat} {p : mIt} (h : i < xs.length) : xt (xs.set i p) j = if j = i then p.2 else xt xs j := by
  unfold xt
  rw [List.getD_eq_getElem?_getD, List.getD_eq_getElem?_getD]
  by_cases q : j = i
  · subst q; rw [List.getElem?_set_self h, if_pos rfl]; rfl
  · rw [List.getElem?_set_ne (Ne.symm q), if_neg q]
def swp (xs : List mIt) (i j : Nat) : List mIt := (xs.set i (xk xs j, xt xs j)).set j (xk xs i, xt xs i)
theorem rowAt_swp {h : mH} {a room i j : Nat} {fl : Int32} {xs : List mIt} {f g : Nat → Int32} (e0 : h a = .inr (.inr (3, [.ref (a + 1), .ref (a + 2), .int fl, .int (nI xs.length)]))) (e1 : h (a + 1) = .inl (0, room, upd (upd f i (xk xs j)) j (xk xs i))) (e2 : h (a + 2) = .inl (0, room, upd (upd g i (xt xs j)) j (xt xs i))) (hi : i < xs.length) (hj : j < xs.length) (hl : xs.length ≤ room) (hr : room ≤ 320) (hk : ∀ i, i < xs.length → f i = xk xs i) (ht : ∀ i, i < xs.length → g i = xt xs i) : rowAt h a room fl (swp xs i j) := by
  have e : (swp xs i j).length = xs.length := by unfold swp; rw [List.length_set, List.length_set]
  refine ⟨_, _, by rw [e]; exact e0, e1, e2, by omega, hr, fun k hk' => ?_, fun k hk' => ?_⟩
  · rw [e] at hk'
    rw [swp, xk_put (by rw [List.length_set]; exact hj), xk_put hi]
    unfold upd
    by_cases q : k = j
    · simp [q]
    · by_cases q2 : k = i
      · simp [q, q2]
      · simp [q, q2, hk k hk']
  · rw [e] at hk'
    rw [swp, xt_put (by rw [List.length_set]; exact hj), xt_put hi]
    unfold upd
    by_cases q : k = j
    · simp [q]
    · by_cases q2 : k = i
      · simp [q, q2]
      · simp [q, q2, ht k hk']
def mdf : Value → Bool
  | .int _ => true
  | .long _ => true
  | .null => true
  | _ => false
theorem mdf_ok {fs : List Value} (h : fs.all mdf = true) : ∀ v ∈ fs, (∃ x, v = .int x) ∨ (∃ x, v = .long x) ∨ v = .null := by
  intro v hv
  have h1 := List.all_eq_true.mp h v hv
  cases v with
  | int x => exact Or.inl ⟨x, rfl⟩
  | long x => exact Or.inr (Or.inl ⟨x, rfl⟩)
  | null => exact Or.inr (Or.inr rfl)
  | _ => cases h1
theorem mDX0 : ∀ j, j < 4 → defaultValue (tyX0 j) = vp_V [.null, .null, .null, .null] j
  | 0, _ => rfl
  | 1, _ => rfl
  | 2, _ => rfl
  | 3, _ => rfl
  | _ + 4, h => by omega
theorem mDX1 : ∀ j, j < 4 → defaultValue (tyX1 j) = vp_V [.null, .null, .int (nI 0), .int (nI 0)] j
  | 0, _ => rfl
  | 1, _ => rfl
  | 2, _ => rfl
  | 3, _ => rfl
  | _ + 4, h => by omega
theorem mDX2 : ∀ j, j < 6 → defaultValue (tyX2 j) = vp_V [.null, .null, .int (nI 0), .int (nI 0), .int (nI 0), .int (nI 0)] j
  | 0, _ => rfl
  | 1, _ => rfl
  | 2, _ => rfl
  | 3, _ => rfl
  | 4, _ => rfl
  | 5, _ => rfl
  | _ + 6, h => by omega
theorem mDX3 : ∀ j, j < 2 → defaultValue (tyX3 j) = vp_V [.long 0, .null] j
  | 0, _ => rfl
  | 1, _ => rfl
  | _ + 2, h => by omega
theorem mDX4 : ∀ j, j < 7 → defaultValue (tyX4 j) = vp_V [.null, .null, .int (nI 0), .int (nI 0), .int (nI 0), .int (nI 0), .int (nI 0)] j
  | 0, _ => rfl
  | 1, _ => rfl
  | 2, _ => rfl
  | 3, _ => rfl
  | 4, _ => rfl
  | 5, _ => rfl
  | 6, _ => rfl
  | _ + 7, h => by omega
