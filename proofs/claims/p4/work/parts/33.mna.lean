/-! ===== the reference's beginning ===== -/
section MTM
variable {l : Launch} {M : mM} {R : Room} {K : mK} {pc : Nat} {ls st : List Value} {h : mH} {n cc sc : Nat}
def mnaH (h : mH) (n : Nat) : mH := fun j => if j < n then h j else if j = n then .inr (.inl (3, 4, fun i => if i < 4 then some (n + 1 + i) else none)) else .inl (0, 0, fun _ => 0)
theorem mt_mna {index : Nat} (hdg : decode M.2.1 pc = .ok (.multianewarray index 2, 4)) (hlk : Cond.classLink M.1.cls index "[[I" ∈ mGw) (harr : Cond.arrayClass .int ∈ mGw) (hcc : cc + 5 ≤ R.cells) (hsc : sc + 4 ≤ R.slots) (k : mT l M R K (pc + 4) ls (.ref n :: st) (mnaH h n) (n + 5) (cc + 5) (sc + 4)) : mT l M R K pc ls (.int (nI 0) :: .int (nI 4) :: st) h n cc sc := by
  intro p e s m args below meth c G w0 H locs LS ws st' hC hD
  obtain ⟨d1, d2, d3, d4, d5, d6, d7⟩ := hD
  obtain ⟨t1, rfl, d7a⟩ := d7.int
  obtain ⟨t2, rfl, d7b⟩ := d7a.int
  have hC' := hC
  obtain ⟨hx0, -, hb, -, -, hown, hts, -, -, -, hmS, -⟩ := hC'
  have hcy : s.vm.findClass "[I" = some (G.2.1 0) := (hmS.1.2 0 _ rfl).2
  refine va_mna (X := ws) (L := []) (f := fun _ => .inl (G.2.1 0, 0, .inl (fun _ => 0))) (N' := 4) (K' := 0) (ty := .int) (z := (0, .inl (fun _ => 0))) hx0 hb hown (hts _ hlk) hmS.2.2.2.2.2.2.2 (hts _ harr) hcy hmS.1 (by rw [show va_pl [] (fun _ => (.inl (G.2.1 0, 0, .inl (fun _ => 0)) : va_E)) = [] from rfl, List.append_nil]; exact d2) (by rw [show va_pl [] (fun _ => (.inl (G.2.1 0, 0, .inl (fun _ => 0)) : va_E)) = [] from rfl, List.append_nil]; exact d3) d4 (fun q hq => Or.inr hq) (nI_pos (by decide)) (nI_pos (by decide)) (nI_clamp (by decide)) (nI_clamp (by decide)) (by decide) (by decide) (by decide) rfl rfl hcc hsc (fun _ => rfl) hdg (fun q r cA H1 r1 r2 g0 g1 g2 g3 => ?_)
  have hcA : cA = G.2.1 3 := by
    have h1 := (g0.2 (mTy G.2.1).length _ (by rw [List.getElem?_append_right (Nat.le_refl _), Nat.sub_self]; rfl)).2
    have h2 := (hmS.1.2 3 _ rfl).2
    exact Option.some.inj (Eq.trans (Eq.symm h1) h2)
  subst hcA
  have e9 : ∀ E : va_E, va_pl ([] ++ (List.range 4).map r) (vr_up (fun _ => E) ((List.range 4).map r) E) = [(r 0, E), (r 1, E), (r 2, E), (r 3, E)] := fun E => by simp [va_pl, vr_up, List.range, List.range.loop]
  rw [e9, List.append_assoc] at g1 g2
  generalize hT : ([(q, (.inl (G.2.1 3, 4, .inr (.inr (.inr (.inr (fun i => if i < 4 then some (r i) else none))))) : va_E))] ++ [(r 0, .inl (G.2.1 0, 0, .inl (fun _ => 0))), (r 1, .inl (G.2.1 0, 0, .inl (fun _ => 0))), (r 2, .inl (G.2.1 0, 0, .inl (fun _ => 0))), (r 3, .inl (G.2.1 0, 0, .inl (fun _ => 0)))] : va_W) = T at g1 g2
  have hlen : ws.length = n := d1.1
  have hE : mExt ws (ws ++ T) := mExt.push
  have hat : ∀ i x, T[i]? = some x → (ws ++ T)[n + i]? = some x := fun i x hx => by
    rw [List.getElem?_append_right (by omega), hlen, Nat.add_sub_cancel_left]; exact hx
  have hW : mW G (mnaH h n) (n + 5) (ws ++ T) := by
    refine ⟨by rw [List.length_append, hlen, ← hT]; rfl, fun j y hj => ?_⟩
    by_cases q1 : j < n
    · rw [List.getElem?_append_left (by omega)] at hj
      rw [show mnaH h n j = h j from if_pos q1]
      exact (d1.2 j y hj).mono hE
    · obtain ⟨i, rfl⟩ : ∃ i, j = n + i := ⟨j - n, by omega⟩
      rw [List.getElem?_append_right (by omega), hlen, Nat.add_sub_cancel_left] at hj
      match i, hj with
      | 0, hj =>
        rw [← hT] at hj
        cases hj
        rw [show mnaH h n (n + 0) = .inr (.inl (3, 4, fun i => if i < 4 then some (n + 1 + i) else none)) from (if_neg (by omega)).trans (if_pos rfl)]
        refine ⟨_, rfl, fun j => ?_⟩
        by_cases qj : j < 4
        · simp only [if_pos qj]
          have h5 : T[1 + j]? = some (r j, .inl (G.2.1 0, 0, .inl (fun _ => 0))) := by
            rw [← hT]
            obtain rfl | rfl | rfl | rfl : j = 0 ∨ j = 1 ∨ j = 2 ∨ j = 3 := by omega
            all_goals rfl
          exact ⟨_, by rw [Nat.add_assoc]; exact hat _ _ h5, rfl⟩
        · simp only [if_neg qj]; rfl
      | i + 1, hj =>
        have h6 : y.2 = .inl (G.2.1 0, 0, .inl (fun _ => 0)) := by
          rw [← hT] at hj
          match i, hj with
          | 0, hj => cases hj; rfl
          | 1, hj => cases hj; rfl
          | 2, hj => cases hj; rfl
          | 3, hj => cases hj; rfl
          | i + 4, hj => cases hj
        rw [show mnaH h n (n + (i + 1)) = .inl (0, 0, fun _ => 0) from (if_neg (by omega)).trans (if_neg (by omega))]
        exact h6
  refine k p e s m args below meth c G w0 H1 locs LS _ _ hC ⟨hW, g1, g2, g3, d5.tr hE, d6.mono hE, mrl.cons ⟨_, hat 0 _ (by rw [← hT]; rfl), rfl⟩ (d7b.mono hE)⟩
theorem mp_mna {index : Nat} (hdg : decode M.2.1 pc = .ok (.multianewarray index 2, 4)) (hlk : Cond.classLink M.1.cls index "[[I" ∈ mGw) (harr : Cond.arrayClass .int ∈ mGw) (hcc : cc + 5 ≤ R.cells) (hsc : sc + 4 ≤ R.slots) (k : ∀ h' : mH, h' n = .inr (.inl (3, 4, fun i => if i < 4 then some (n + 1 + i) else none)) → (∀ i, i < 4 → h' (n + 1 + i) = .inl (0, 0, fun _ => 0)) → (∀ j, j < n → h' j = h j) → mT l M R K (pc + 4) ls (.ref n :: st) h' (n + 5) (cc + 5) (sc + 4)) : mT l M R K pc ls (.int (nI 0) :: .int (nI 4) :: st) h n cc sc :=
  mt_mna hdg hlk harr hcc hsc (k _ ((if_neg (by omega)).trans (if_pos rfl)) (fun i hi => (if_neg (by omega)).trans (if_neg (by omega))) (fun j hj => if_pos hj))
end MTM
