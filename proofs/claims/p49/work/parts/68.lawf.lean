/-! ===== the law: an act ===== -/
abbrev rL_act : Room := { frames := 9, cells := 100, slots := 1000, locals := 156 }
set_option maxRecDepth 100000 in
theorem tL_act_x199 {l : Launch} {h : mH} {n kd r ot ml tt cc sc : Nat} {x pl : Int32} {S : cS} (C : cAt h S) (hcc : cc ≤ rL_act.cells) (hsc : sc ≤ rL_act.slots) {E : String} {h1 : mH} {n1 : Nat} (hx : (E = eI ∨ E = eA) ∧ h1 = h ∧ n1 = n) : mTX l mL_act rL_act (mKo rL_act (fun v h' n' => v = none ∧ n' = n ∧ ∃ S', cAt h' S') mNX) 199 [.ref 0, .int x, .int (nI kd), .int (nI r), .int (nI ot), .int (nI ml), .int pl, .int (nI tt), .double 0] E h1 n1 cc sc := by
  obtain ⟨hE, rfl, rfl⟩ := hx
  rcases hE with rfl | rfl
  · refine mt_catch (nm := "java/lang/IndexOutOfBoundsException") (pre := []) (suf := [(71, 401, 407, 99)]) (x := (71, 401, 404, 97)) rfl (fun z hz => by cases hz) _ rfl rfl (by decide) mw_211 mw_223 ?_
    show mT _ _ _ _ 404 [.ref 0, .int x, .int (nI kd), .int (nI r), .int (nI ot), .int (nI ml), .int pl, .int (nI tt), .double 0] [.float 0] _ _ _ _
    refine mp_astore dL_act_404 (ls' := [.ref 0, .int x, .int (nI kd), .int (nI r), .int (nI ot), .int (nI ml), .int pl, .int (nI tt), .float 0]) rfl rfl (by decide) rfl ?_
    refine mt_return dL_act_406 rfl hcc hsc ?_
    exact ⟨rfl, rfl, _, C⟩
  · refine mt_catch (nm := "java/lang/IllegalArgumentException") (pre := [(71, 401, 404, 97)]) (suf := []) (x := (71, 401, 407, 99)) rfl (fun z hz => by rw [List.mem_singleton.mp hz]; exact Or.inr ⟨by decide, mw_211, rfl⟩) _ rfl rfl (by decide) mw_212 mw_301 ?_
    show mT _ _ _ _ 407 [.ref 0, .int x, .int (nI kd), .int (nI r), .int (nI ot), .int (nI ml), .int pl, .int (nI tt), .double 0] [.float 0] _ _ _ _
    refine mp_astore dL_act_407 (ls' := [.ref 0, .int x, .int (nI kd), .int (nI r), .int (nI ot), .int (nI ml), .int pl, .int (nI tt), .float 0]) rfl rfl (by decide) rfl ?_
    refine mt_return dL_act_409 rfl hcc hsc ?_
    exact ⟨rfl, rfl, _, C⟩
set_option maxRecDepth 100000 in
theorem tL_act_x219 {l : Launch} {h : mH} {n kd r ot ml tt cc sc : Nat} {x pl : Int32} {S : cS} (C : cAt h S) (hcc : cc ≤ rL_act.cells) (hsc : sc ≤ rL_act.slots) {E : String} {h1 : mH} {n1 : Nat} (hx : (E = eI ∨ E = eA) ∧ h1 = h ∧ n1 = n) : mTX l mL_act rL_act (mKo rL_act (fun v h' n' => v = none ∧ n' = n ∧ ∃ S', cAt h' S') mNX) 219 [.ref 0, .int x, .int (nI kd), .int (nI r), .int (nI ot), .int (nI ml), .int pl, .int (nI tt), .double 0] E h1 n1 cc sc := by
  obtain ⟨hE, rfl, rfl⟩ := hx
  rcases hE with rfl | rfl
  · refine mt_catch (nm := "java/lang/IndexOutOfBoundsException") (pre := []) (suf := [(71, 401, 407, 99)]) (x := (71, 401, 404, 97)) rfl (fun z hz => by cases hz) _ rfl rfl (by decide) mw_211 mw_223 ?_
    show mT _ _ _ _ 404 [.ref 0, .int x, .int (nI kd), .int (nI r), .int (nI ot), .int (nI ml), .int pl, .int (nI tt), .double 0] [.float 0] _ _ _ _
    refine mp_astore dL_act_404 (ls' := [.ref 0, .int x, .int (nI kd), .int (nI r), .int (nI ot), .int (nI ml), .int pl, .int (nI tt), .float 0]) rfl rfl (by decide) rfl ?_
    refine mt_return dL_act_406 rfl hcc hsc ?_
    exact ⟨rfl, rfl, _, C⟩
  · refine mt_catch (nm := "java/lang/IllegalArgumentException") (pre := [(71, 401, 404, 97)]) (suf := []) (x := (71, 401, 407, 99)) rfl (fun z hz => by rw [List.mem_singleton.mp hz]; exact Or.inr ⟨by decide, mw_211, rfl⟩) _ rfl rfl (by decide) mw_212 mw_301 ?_
    show mT _ _ _ _ 407 [.ref 0, .int x, .int (nI kd), .int (nI r), .int (nI ot), .int (nI ml), .int pl, .int (nI tt), .double 0] [.float 0] _ _ _ _
    refine mp_astore dL_act_407 (ls' := [.ref 0, .int x, .int (nI kd), .int (nI r), .int (nI ot), .int (nI ml), .int pl, .int (nI tt), .float 0]) rfl rfl (by decide) rfl ?_
    refine mt_return dL_act_409 rfl hcc hsc ?_
    exact ⟨rfl, rfl, _, C⟩
set_option maxRecDepth 100000 in
theorem tL_act_x241 {l : Launch} {h : mH} {n kd r ot ml tt cc sc : Nat} {x pl : Int32} {S : cS} (C : cAt h S) (hcc : cc ≤ rL_act.cells) (hsc : sc ≤ rL_act.slots) {E : String} {h1 : mH} {n1 : Nat} (hx : (E = eI ∨ E = eA) ∧ h1 = h ∧ n1 = n) : mTX l mL_act rL_act (mKo rL_act (fun v h' n' => v = none ∧ n' = n ∧ ∃ S', cAt h' S') mNX) 241 [.ref 0, .int x, .int (nI kd), .int (nI r), .int (nI ot), .int (nI ml), .int pl, .int (nI tt), .double 0] E h1 n1 cc sc := by
  obtain ⟨hE, rfl, rfl⟩ := hx
  rcases hE with rfl | rfl
  · refine mt_catch (nm := "java/lang/IndexOutOfBoundsException") (pre := []) (suf := [(71, 401, 407, 99)]) (x := (71, 401, 404, 97)) rfl (fun z hz => by cases hz) _ rfl rfl (by decide) mw_211 mw_223 ?_
    show mT _ _ _ _ 404 [.ref 0, .int x, .int (nI kd), .int (nI r), .int (nI ot), .int (nI ml), .int pl, .int (nI tt), .double 0] [.float 0] _ _ _ _
    refine mp_astore dL_act_404 (ls' := [.ref 0, .int x, .int (nI kd), .int (nI r), .int (nI ot), .int (nI ml), .int pl, .int (nI tt), .float 0]) rfl rfl (by decide) rfl ?_
    refine mt_return dL_act_406 rfl hcc hsc ?_
    exact ⟨rfl, rfl, _, C⟩
  · refine mt_catch (nm := "java/lang/IllegalArgumentException") (pre := [(71, 401, 404, 97)]) (suf := []) (x := (71, 401, 407, 99)) rfl (fun z hz => by rw [List.mem_singleton.mp hz]; exact Or.inr ⟨by decide, mw_211, rfl⟩) _ rfl rfl (by decide) mw_212 mw_301 ?_
    show mT _ _ _ _ 407 [.ref 0, .int x, .int (nI kd), .int (nI r), .int (nI ot), .int (nI ml), .int pl, .int (nI tt), .double 0] [.float 0] _ _ _ _
    refine mp_astore dL_act_407 (ls' := [.ref 0, .int x, .int (nI kd), .int (nI r), .int (nI ot), .int (nI ml), .int pl, .int (nI tt), .float 0]) rfl rfl (by decide) rfl ?_
    refine mt_return dL_act_409 rfl hcc hsc ?_
    exact ⟨rfl, rfl, _, C⟩
set_option maxRecDepth 100000 in
theorem tL_act_x252 {l : Launch} {h : mH} {n kd r ot ml tt cc sc : Nat} {x pl : Int32} {S : cS} (C : cAt h S) (hcc : cc ≤ rL_act.cells) (hsc : sc ≤ rL_act.slots) {E : String} {h1 : mH} {n1 : Nat} (hx : (E = eI ∨ E = eA) ∧ h1 = h ∧ n1 = n) : mTX l mL_act rL_act (mKo rL_act (fun v h' n' => v = none ∧ n' = n ∧ ∃ S', cAt h' S') mNX) 252 [.ref 0, .int x, .int (nI kd), .int (nI r), .int (nI ot), .int (nI ml), .int pl, .int (nI tt), .double 0] E h1 n1 cc sc := by
  obtain ⟨hE, rfl, rfl⟩ := hx
  rcases hE with rfl | rfl
  · refine mt_catch (nm := "java/lang/IndexOutOfBoundsException") (pre := []) (suf := [(71, 401, 407, 99)]) (x := (71, 401, 404, 97)) rfl (fun z hz => by cases hz) _ rfl rfl (by decide) mw_211 mw_223 ?_
    show mT _ _ _ _ 404 [.ref 0, .int x, .int (nI kd), .int (nI r), .int (nI ot), .int (nI ml), .int pl, .int (nI tt), .double 0] [.float 0] _ _ _ _
    refine mp_astore dL_act_404 (ls' := [.ref 0, .int x, .int (nI kd), .int (nI r), .int (nI ot), .int (nI ml), .int pl, .int (nI tt), .float 0]) rfl rfl (by decide) rfl ?_
    refine mt_return dL_act_406 rfl hcc hsc ?_
    exact ⟨rfl, rfl, _, C⟩
  · refine mt_catch (nm := "java/lang/IllegalArgumentException") (pre := [(71, 401, 404, 97)]) (suf := []) (x := (71, 401, 407, 99)) rfl (fun z hz => by rw [List.mem_singleton.mp hz]; exact Or.inr ⟨by decide, mw_211, rfl⟩) _ rfl rfl (by decide) mw_212 mw_301 ?_
    show mT _ _ _ _ 407 [.ref 0, .int x, .int (nI kd), .int (nI r), .int (nI ot), .int (nI ml), .int pl, .int (nI tt), .double 0] [.float 0] _ _ _ _
    refine mp_astore dL_act_407 (ls' := [.ref 0, .int x, .int (nI kd), .int (nI r), .int (nI ot), .int (nI ml), .int pl, .int (nI tt), .float 0]) rfl rfl (by decide) rfl ?_
    refine mt_return dL_act_409 rfl hcc hsc ?_
    exact ⟨rfl, rfl, _, C⟩
set_option maxRecDepth 100000 in
theorem tL_act_x263 {l : Launch} {h : mH} {n kd r ot ml tt cc sc : Nat} {x pl : Int32} {S : cS} (C : cAt h S) (hcc : cc ≤ rL_act.cells) (hsc : sc ≤ rL_act.slots) {E : String} {h1 : mH} {n1 : Nat} (hx : (E = eI ∨ E = eA) ∧ h1 = h ∧ n1 = n) : mTX l mL_act rL_act (mKo rL_act (fun v h' n' => v = none ∧ n' = n ∧ ∃ S', cAt h' S') mNX) 263 [.ref 0, .int x, .int (nI kd), .int (nI r), .int (nI ot), .int (nI ml), .int pl, .int (nI tt), .double 0] E h1 n1 cc sc := by
  obtain ⟨hE, rfl, rfl⟩ := hx
  rcases hE with rfl | rfl
  · refine mt_catch (nm := "java/lang/IndexOutOfBoundsException") (pre := []) (suf := [(71, 401, 407, 99)]) (x := (71, 401, 404, 97)) rfl (fun z hz => by cases hz) _ rfl rfl (by decide) mw_211 mw_223 ?_
    show mT _ _ _ _ 404 [.ref 0, .int x, .int (nI kd), .int (nI r), .int (nI ot), .int (nI ml), .int pl, .int (nI tt), .double 0] [.float 0] _ _ _ _
    refine mp_astore dL_act_404 (ls' := [.ref 0, .int x, .int (nI kd), .int (nI r), .int (nI ot), .int (nI ml), .int pl, .int (nI tt), .float 0]) rfl rfl (by decide) rfl ?_
    refine mt_return dL_act_406 rfl hcc hsc ?_
    exact ⟨rfl, rfl, _, C⟩
  · refine mt_catch (nm := "java/lang/IllegalArgumentException") (pre := [(71, 401, 404, 97)]) (suf := []) (x := (71, 401, 407, 99)) rfl (fun z hz => by rw [List.mem_singleton.mp hz]; exact Or.inr ⟨by decide, mw_211, rfl⟩) _ rfl rfl (by decide) mw_212 mw_301 ?_
    show mT _ _ _ _ 407 [.ref 0, .int x, .int (nI kd), .int (nI r), .int (nI ot), .int (nI ml), .int pl, .int (nI tt), .double 0] [.float 0] _ _ _ _
    refine mp_astore dL_act_407 (ls' := [.ref 0, .int x, .int (nI kd), .int (nI r), .int (nI ot), .int (nI ml), .int pl, .int (nI tt), .float 0]) rfl rfl (by decide) rfl ?_
    refine mt_return dL_act_409 rfl hcc hsc ?_
    exact ⟨rfl, rfl, _, C⟩
set_option maxRecDepth 100000 in
theorem tL_act_x276 {l : Launch} {h : mH} {n kd r ot ml tt cc sc : Nat} {x pl : Int32} {S : cS} (C : cAt h S) (hcc : cc ≤ rL_act.cells) (hsc : sc ≤ rL_act.slots) {E : String} {h1 : mH} {n1 : Nat} (hx : (E = eI ∨ E = eA) ∧ h1 = h ∧ n1 = n) : mTX l mL_act rL_act (mKo rL_act (fun v h' n' => v = none ∧ n' = n ∧ ∃ S', cAt h' S') mNX) 276 [.ref 0, .int x, .int (nI kd), .int (nI r), .int (nI ot), .int (nI ml), .int pl, .int (nI tt), .double 0] E h1 n1 cc sc := by
  obtain ⟨hE, rfl, rfl⟩ := hx
  rcases hE with rfl | rfl
  · refine mt_catch (nm := "java/lang/IndexOutOfBoundsException") (pre := []) (suf := [(71, 401, 407, 99)]) (x := (71, 401, 404, 97)) rfl (fun z hz => by cases hz) _ rfl rfl (by decide) mw_211 mw_223 ?_
    show mT _ _ _ _ 404 [.ref 0, .int x, .int (nI kd), .int (nI r), .int (nI ot), .int (nI ml), .int pl, .int (nI tt), .double 0] [.float 0] _ _ _ _
    refine mp_astore dL_act_404 (ls' := [.ref 0, .int x, .int (nI kd), .int (nI r), .int (nI ot), .int (nI ml), .int pl, .int (nI tt), .float 0]) rfl rfl (by decide) rfl ?_
    refine mt_return dL_act_406 rfl hcc hsc ?_
    exact ⟨rfl, rfl, _, C⟩
  · refine mt_catch (nm := "java/lang/IllegalArgumentException") (pre := [(71, 401, 404, 97)]) (suf := []) (x := (71, 401, 407, 99)) rfl (fun z hz => by rw [List.mem_singleton.mp hz]; exact Or.inr ⟨by decide, mw_211, rfl⟩) _ rfl rfl (by decide) mw_212 mw_301 ?_
    show mT _ _ _ _ 407 [.ref 0, .int x, .int (nI kd), .int (nI r), .int (nI ot), .int (nI ml), .int pl, .int (nI tt), .double 0] [.float 0] _ _ _ _
    refine mp_astore dL_act_407 (ls' := [.ref 0, .int x, .int (nI kd), .int (nI r), .int (nI ot), .int (nI ml), .int pl, .int (nI tt), .float 0]) rfl rfl (by decide) rfl ?_
    refine mt_return dL_act_409 rfl hcc hsc ?_
    exact ⟨rfl, rfl, _, C⟩
set_option maxRecDepth 100000 in
theorem tL_act_x285 {l : Launch} {h : mH} {n kd r ot ml tt cc sc : Nat} {x pl : Int32} {S : cS} (C : cAt h S) (hcc : cc ≤ rL_act.cells) (hsc : sc ≤ rL_act.slots) {E : String} {h1 : mH} {n1 : Nat} (hx : (E = eI ∨ E = eA) ∧ h1 = h ∧ n1 = n) : mTX l mL_act rL_act (mKo rL_act (fun v h' n' => v = none ∧ n' = n ∧ ∃ S', cAt h' S') mNX) 285 [.ref 0, .int x, .int (nI kd), .int (nI r), .int (nI ot), .int (nI ml), .int pl, .int (nI tt), .double 0] E h1 n1 cc sc := by
  obtain ⟨hE, rfl, rfl⟩ := hx
  rcases hE with rfl | rfl
  · refine mt_catch (nm := "java/lang/IndexOutOfBoundsException") (pre := []) (suf := [(71, 401, 407, 99)]) (x := (71, 401, 404, 97)) rfl (fun z hz => by cases hz) _ rfl rfl (by decide) mw_211 mw_223 ?_
    show mT _ _ _ _ 404 [.ref 0, .int x, .int (nI kd), .int (nI r), .int (nI ot), .int (nI ml), .int pl, .int (nI tt), .double 0] [.float 0] _ _ _ _
    refine mp_astore dL_act_404 (ls' := [.ref 0, .int x, .int (nI kd), .int (nI r), .int (nI ot), .int (nI ml), .int pl, .int (nI tt), .float 0]) rfl rfl (by decide) rfl ?_
    refine mt_return dL_act_406 rfl hcc hsc ?_
    exact ⟨rfl, rfl, _, C⟩
  · refine mt_catch (nm := "java/lang/IllegalArgumentException") (pre := [(71, 401, 404, 97)]) (suf := []) (x := (71, 401, 407, 99)) rfl (fun z hz => by rw [List.mem_singleton.mp hz]; exact Or.inr ⟨by decide, mw_211, rfl⟩) _ rfl rfl (by decide) mw_212 mw_301 ?_
    show mT _ _ _ _ 407 [.ref 0, .int x, .int (nI kd), .int (nI r), .int (nI ot), .int (nI ml), .int pl, .int (nI tt), .double 0] [.float 0] _ _ _ _
    refine mp_astore dL_act_407 (ls' := [.ref 0, .int x, .int (nI kd), .int (nI r), .int (nI ot), .int (nI ml), .int pl, .int (nI tt), .float 0]) rfl rfl (by decide) rfl ?_
    refine mt_return dL_act_409 rfl hcc hsc ?_
    exact ⟨rfl, rfl, _, C⟩
set_option maxRecDepth 100000 in
theorem tL_act_x296 {l : Launch} {h : mH} {n kd r ot ml tt cc sc : Nat} {x pl : Int32} {S : cS} (C : cAt h S) (hcc : cc ≤ rL_act.cells) (hsc : sc ≤ rL_act.slots) {E : String} {h1 : mH} {n1 : Nat} (hx : (E = eI ∨ E = eA) ∧ h1 = h ∧ n1 = n) : mTX l mL_act rL_act (mKo rL_act (fun v h' n' => v = none ∧ n' = n ∧ ∃ S', cAt h' S') mNX) 296 [.ref 0, .int x, .int (nI kd), .int (nI r), .int (nI ot), .int (nI ml), .int pl, .int (nI tt), .double 0] E h1 n1 cc sc := by
  obtain ⟨hE, rfl, rfl⟩ := hx
  rcases hE with rfl | rfl
  · refine mt_catch (nm := "java/lang/IndexOutOfBoundsException") (pre := []) (suf := [(71, 401, 407, 99)]) (x := (71, 401, 404, 97)) rfl (fun z hz => by cases hz) _ rfl rfl (by decide) mw_211 mw_223 ?_
    show mT _ _ _ _ 404 [.ref 0, .int x, .int (nI kd), .int (nI r), .int (nI ot), .int (nI ml), .int pl, .int (nI tt), .double 0] [.float 0] _ _ _ _
    refine mp_astore dL_act_404 (ls' := [.ref 0, .int x, .int (nI kd), .int (nI r), .int (nI ot), .int (nI ml), .int pl, .int (nI tt), .float 0]) rfl rfl (by decide) rfl ?_
    refine mt_return dL_act_406 rfl hcc hsc ?_
    exact ⟨rfl, rfl, _, C⟩
  · refine mt_catch (nm := "java/lang/IllegalArgumentException") (pre := [(71, 401, 404, 97)]) (suf := []) (x := (71, 401, 407, 99)) rfl (fun z hz => by rw [List.mem_singleton.mp hz]; exact Or.inr ⟨by decide, mw_211, rfl⟩) _ rfl rfl (by decide) mw_212 mw_301 ?_
    show mT _ _ _ _ 407 [.ref 0, .int x, .int (nI kd), .int (nI r), .int (nI ot), .int (nI ml), .int pl, .int (nI tt), .double 0] [.float 0] _ _ _ _
    refine mp_astore dL_act_407 (ls' := [.ref 0, .int x, .int (nI kd), .int (nI r), .int (nI ot), .int (nI ml), .int pl, .int (nI tt), .float 0]) rfl rfl (by decide) rfl ?_
    refine mt_return dL_act_409 rfl hcc hsc ?_
    exact ⟨rfl, rfl, _, C⟩
set_option maxRecDepth 100000 in
theorem tL_act_x336 {l : Launch} {h : mH} {n kd r ot ml tt cc sc : Nat} {x pl : Int32} {S : cS} (C : cAt h S) (hcc : cc ≤ rL_act.cells) (hsc : sc ≤ rL_act.slots) {E : String} {h1 : mH} {n1 : Nat} (hx : (E = eI ∨ E = eA) ∧ h1 = h ∧ n1 = n) : mTX l mL_act rL_act (mKo rL_act (fun v h' n' => v = none ∧ n' = n ∧ ∃ S', cAt h' S') mNX) 336 [.ref 0, .int x, .int (nI kd), .int (nI r), .int (nI ot), .int (nI ml), .int pl, .int (nI tt), .double 0] E h1 n1 cc sc := by
  obtain ⟨hE, rfl, rfl⟩ := hx
  rcases hE with rfl | rfl
  · refine mt_catch (nm := "java/lang/IndexOutOfBoundsException") (pre := []) (suf := [(71, 401, 407, 99)]) (x := (71, 401, 404, 97)) rfl (fun z hz => by cases hz) _ rfl rfl (by decide) mw_211 mw_223 ?_
    show mT _ _ _ _ 404 [.ref 0, .int x, .int (nI kd), .int (nI r), .int (nI ot), .int (nI ml), .int pl, .int (nI tt), .double 0] [.float 0] _ _ _ _
    refine mp_astore dL_act_404 (ls' := [.ref 0, .int x, .int (nI kd), .int (nI r), .int (nI ot), .int (nI ml), .int pl, .int (nI tt), .float 0]) rfl rfl (by decide) rfl ?_
    refine mt_return dL_act_406 rfl hcc hsc ?_
    exact ⟨rfl, rfl, _, C⟩
  · refine mt_catch (nm := "java/lang/IllegalArgumentException") (pre := [(71, 401, 404, 97)]) (suf := []) (x := (71, 401, 407, 99)) rfl (fun z hz => by rw [List.mem_singleton.mp hz]; exact Or.inr ⟨by decide, mw_211, rfl⟩) _ rfl rfl (by decide) mw_212 mw_301 ?_
    show mT _ _ _ _ 407 [.ref 0, .int x, .int (nI kd), .int (nI r), .int (nI ot), .int (nI ml), .int pl, .int (nI tt), .double 0] [.float 0] _ _ _ _
    refine mp_astore dL_act_407 (ls' := [.ref 0, .int x, .int (nI kd), .int (nI r), .int (nI ot), .int (nI ml), .int pl, .int (nI tt), .float 0]) rfl rfl (by decide) rfl ?_
    refine mt_return dL_act_409 rfl hcc hsc ?_
    exact ⟨rfl, rfl, _, C⟩
set_option maxRecDepth 100000 in
theorem tL_act_x347 {l : Launch} {h : mH} {n kd r ot ml tt cc sc : Nat} {x pl : Int32} {S : cS} (C : cAt h S) (hcc : cc ≤ rL_act.cells) (hsc : sc ≤ rL_act.slots) {E : String} {h1 : mH} {n1 : Nat} (hx : (E = eI ∨ E = eA) ∧ h1 = h ∧ n1 = n) : mTX l mL_act rL_act (mKo rL_act (fun v h' n' => v = none ∧ n' = n ∧ ∃ S', cAt h' S') mNX) 347 [.ref 0, .int x, .int (nI kd), .int (nI r), .int (nI ot), .int (nI ml), .int pl, .int (nI tt), .double 0] E h1 n1 cc sc := by
  obtain ⟨hE, rfl, rfl⟩ := hx
  rcases hE with rfl | rfl
  · refine mt_catch (nm := "java/lang/IndexOutOfBoundsException") (pre := []) (suf := [(71, 401, 407, 99)]) (x := (71, 401, 404, 97)) rfl (fun z hz => by cases hz) _ rfl rfl (by decide) mw_211 mw_223 ?_
    show mT _ _ _ _ 404 [.ref 0, .int x, .int (nI kd), .int (nI r), .int (nI ot), .int (nI ml), .int pl, .int (nI tt), .double 0] [.float 0] _ _ _ _
    refine mp_astore dL_act_404 (ls' := [.ref 0, .int x, .int (nI kd), .int (nI r), .int (nI ot), .int (nI ml), .int pl, .int (nI tt), .float 0]) rfl rfl (by decide) rfl ?_
    refine mt_return dL_act_406 rfl hcc hsc ?_
    exact ⟨rfl, rfl, _, C⟩
  · refine mt_catch (nm := "java/lang/IllegalArgumentException") (pre := [(71, 401, 404, 97)]) (suf := []) (x := (71, 401, 407, 99)) rfl (fun z hz => by rw [List.mem_singleton.mp hz]; exact Or.inr ⟨by decide, mw_211, rfl⟩) _ rfl rfl (by decide) mw_212 mw_301 ?_
    show mT _ _ _ _ 407 [.ref 0, .int x, .int (nI kd), .int (nI r), .int (nI ot), .int (nI ml), .int pl, .int (nI tt), .double 0] [.float 0] _ _ _ _
    refine mp_astore dL_act_407 (ls' := [.ref 0, .int x, .int (nI kd), .int (nI r), .int (nI ot), .int (nI ml), .int pl, .int (nI tt), .float 0]) rfl rfl (by decide) rfl ?_
    refine mt_return dL_act_409 rfl hcc hsc ?_
    exact ⟨rfl, rfl, _, C⟩
set_option maxRecDepth 100000 in
theorem tL_act_x358 {l : Launch} {h : mH} {n kd r ot ml tt cc sc : Nat} {x pl : Int32} {S : cS} (C : cAt h S) (hcc : cc ≤ rL_act.cells) (hsc : sc ≤ rL_act.slots) {E : String} {h1 : mH} {n1 : Nat} (hx : (E = eI ∨ E = eA) ∧ h1 = h ∧ n1 = n) : mTX l mL_act rL_act (mKo rL_act (fun v h' n' => v = none ∧ n' = n ∧ ∃ S', cAt h' S') mNX) 358 [.ref 0, .int x, .int (nI kd), .int (nI r), .int (nI ot), .int (nI ml), .int pl, .int (nI tt), .double 0] E h1 n1 cc sc := by
  obtain ⟨hE, rfl, rfl⟩ := hx
  rcases hE with rfl | rfl
  · refine mt_catch (nm := "java/lang/IndexOutOfBoundsException") (pre := []) (suf := [(71, 401, 407, 99)]) (x := (71, 401, 404, 97)) rfl (fun z hz => by cases hz) _ rfl rfl (by decide) mw_211 mw_223 ?_
    show mT _ _ _ _ 404 [.ref 0, .int x, .int (nI kd), .int (nI r), .int (nI ot), .int (nI ml), .int pl, .int (nI tt), .double 0] [.float 0] _ _ _ _
    refine mp_astore dL_act_404 (ls' := [.ref 0, .int x, .int (nI kd), .int (nI r), .int (nI ot), .int (nI ml), .int pl, .int (nI tt), .float 0]) rfl rfl (by decide) rfl ?_
    refine mt_return dL_act_406 rfl hcc hsc ?_
    exact ⟨rfl, rfl, _, C⟩
  · refine mt_catch (nm := "java/lang/IllegalArgumentException") (pre := [(71, 401, 404, 97)]) (suf := []) (x := (71, 401, 407, 99)) rfl (fun z hz => by rw [List.mem_singleton.mp hz]; exact Or.inr ⟨by decide, mw_211, rfl⟩) _ rfl rfl (by decide) mw_212 mw_301 ?_
    show mT _ _ _ _ 407 [.ref 0, .int x, .int (nI kd), .int (nI r), .int (nI ot), .int (nI ml), .int pl, .int (nI tt), .double 0] [.float 0] _ _ _ _
    refine mp_astore dL_act_407 (ls' := [.ref 0, .int x, .int (nI kd), .int (nI r), .int (nI ot), .int (nI ml), .int pl, .int (nI tt), .float 0]) rfl rfl (by decide) rfl ?_
    refine mt_return dL_act_409 rfl hcc hsc ?_
    exact ⟨rfl, rfl, _, C⟩
set_option maxRecDepth 100000 in
theorem tL_act_x369 {l : Launch} {h : mH} {n kd r ot ml tt cc sc : Nat} {x pl : Int32} {S : cS} (C : cAt h S) (hcc : cc ≤ rL_act.cells) (hsc : sc ≤ rL_act.slots) {E : String} {h1 : mH} {n1 : Nat} (hx : (E = eI ∨ E = eA) ∧ h1 = h ∧ n1 = n) : mTX l mL_act rL_act (mKo rL_act (fun v h' n' => v = none ∧ n' = n ∧ ∃ S', cAt h' S') mNX) 369 [.ref 0, .int x, .int (nI kd), .int (nI r), .int (nI ot), .int (nI ml), .int pl, .int (nI tt), .double 0] E h1 n1 cc sc := by
  obtain ⟨hE, rfl, rfl⟩ := hx
  rcases hE with rfl | rfl
  · refine mt_catch (nm := "java/lang/IndexOutOfBoundsException") (pre := []) (suf := [(71, 401, 407, 99)]) (x := (71, 401, 404, 97)) rfl (fun z hz => by cases hz) _ rfl rfl (by decide) mw_211 mw_223 ?_
    show mT _ _ _ _ 404 [.ref 0, .int x, .int (nI kd), .int (nI r), .int (nI ot), .int (nI ml), .int pl, .int (nI tt), .double 0] [.float 0] _ _ _ _
    refine mp_astore dL_act_404 (ls' := [.ref 0, .int x, .int (nI kd), .int (nI r), .int (nI ot), .int (nI ml), .int pl, .int (nI tt), .float 0]) rfl rfl (by decide) rfl ?_
    refine mt_return dL_act_406 rfl hcc hsc ?_
    exact ⟨rfl, rfl, _, C⟩
  · refine mt_catch (nm := "java/lang/IllegalArgumentException") (pre := [(71, 401, 404, 97)]) (suf := []) (x := (71, 401, 407, 99)) rfl (fun z hz => by rw [List.mem_singleton.mp hz]; exact Or.inr ⟨by decide, mw_211, rfl⟩) _ rfl rfl (by decide) mw_212 mw_301 ?_
    show mT _ _ _ _ 407 [.ref 0, .int x, .int (nI kd), .int (nI r), .int (nI ot), .int (nI ml), .int pl, .int (nI tt), .double 0] [.float 0] _ _ _ _
    refine mp_astore dL_act_407 (ls' := [.ref 0, .int x, .int (nI kd), .int (nI r), .int (nI ot), .int (nI ml), .int pl, .int (nI tt), .float 0]) rfl rfl (by decide) rfl ?_
    refine mt_return dL_act_409 rfl hcc hsc ?_
    exact ⟨rfl, rfl, _, C⟩
set_option maxRecDepth 100000 in
theorem tL_act_x388 {l : Launch} {h : mH} {n kd r ot ml tt cc sc : Nat} {x pl : Int32} {S : cS} (C : cAt h S) (hcc : cc ≤ rL_act.cells) (hsc : sc ≤ rL_act.slots) {E : String} {h1 : mH} {n1 : Nat} (hx : (E = eI ∨ E = eA) ∧ h1 = h ∧ n1 = n) : mTX l mL_act rL_act (mKo rL_act (fun v h' n' => v = none ∧ n' = n ∧ ∃ S', cAt h' S') mNX) 388 [.ref 0, .int x, .int (nI kd), .int (nI r), .int (nI ot), .int (nI ml), .int pl, .int (nI tt), .double 0] E h1 n1 cc sc := by
  obtain ⟨hE, rfl, rfl⟩ := hx
  rcases hE with rfl | rfl
  · refine mt_catch (nm := "java/lang/IndexOutOfBoundsException") (pre := []) (suf := [(71, 401, 407, 99)]) (x := (71, 401, 404, 97)) rfl (fun z hz => by cases hz) _ rfl rfl (by decide) mw_211 mw_223 ?_
    show mT _ _ _ _ 404 [.ref 0, .int x, .int (nI kd), .int (nI r), .int (nI ot), .int (nI ml), .int pl, .int (nI tt), .double 0] [.float 0] _ _ _ _
    refine mp_astore dL_act_404 (ls' := [.ref 0, .int x, .int (nI kd), .int (nI r), .int (nI ot), .int (nI ml), .int pl, .int (nI tt), .float 0]) rfl rfl (by decide) rfl ?_
    refine mt_return dL_act_406 rfl hcc hsc ?_
    exact ⟨rfl, rfl, _, C⟩
  · refine mt_catch (nm := "java/lang/IllegalArgumentException") (pre := [(71, 401, 404, 97)]) (suf := []) (x := (71, 401, 407, 99)) rfl (fun z hz => by rw [List.mem_singleton.mp hz]; exact Or.inr ⟨by decide, mw_211, rfl⟩) _ rfl rfl (by decide) mw_212 mw_301 ?_
    show mT _ _ _ _ 407 [.ref 0, .int x, .int (nI kd), .int (nI r), .int (nI ot), .int (nI ml), .int pl, .int (nI tt), .double 0] [.float 0] _ _ _ _
    refine mp_astore dL_act_407 (ls' := [.ref 0, .int x, .int (nI kd), .int (nI r), .int (nI ot), .int (nI ml), .int pl, .int (nI tt), .float 0]) rfl rfl (by decide) rfl ?_
    refine mt_return dL_act_409 rfl hcc hsc ?_
    exact ⟨rfl, rfl, _, C⟩
set_option maxRecDepth 100000 in
theorem tL_act_x397 {l : Launch} {h : mH} {n kd r ot ml tt cc sc : Nat} {x pl : Int32} {S : cS} (C : cAt h S) (hcc : cc ≤ rL_act.cells) (hsc : sc ≤ rL_act.slots) {E : String} {h1 : mH} {n1 : Nat} (hx : (E = eI ∨ E = eA) ∧ h1 = h ∧ n1 = n) : mTX l mL_act rL_act (mKo rL_act (fun v h' n' => v = none ∧ n' = n ∧ ∃ S', cAt h' S') mNX) 397 [.ref 0, .int x, .int (nI kd), .int (nI r), .int (nI ot), .int (nI ml), .int pl, .int (nI tt), .double 0] E h1 n1 cc sc := by
  obtain ⟨hE, rfl, rfl⟩ := hx
  rcases hE with rfl | rfl
  · refine mt_catch (nm := "java/lang/IndexOutOfBoundsException") (pre := []) (suf := [(71, 401, 407, 99)]) (x := (71, 401, 404, 97)) rfl (fun z hz => by cases hz) _ rfl rfl (by decide) mw_211 mw_223 ?_
    show mT _ _ _ _ 404 [.ref 0, .int x, .int (nI kd), .int (nI r), .int (nI ot), .int (nI ml), .int pl, .int (nI tt), .double 0] [.float 0] _ _ _ _
    refine mp_astore dL_act_404 (ls' := [.ref 0, .int x, .int (nI kd), .int (nI r), .int (nI ot), .int (nI ml), .int pl, .int (nI tt), .float 0]) rfl rfl (by decide) rfl ?_
    refine mt_return dL_act_406 rfl hcc hsc ?_
    exact ⟨rfl, rfl, _, C⟩
  · refine mt_catch (nm := "java/lang/IllegalArgumentException") (pre := [(71, 401, 404, 97)]) (suf := []) (x := (71, 401, 407, 99)) rfl (fun z hz => by rw [List.mem_singleton.mp hz]; exact Or.inr ⟨by decide, mw_211, rfl⟩) _ rfl rfl (by decide) mw_212 mw_301 ?_
    show mT _ _ _ _ 407 [.ref 0, .int x, .int (nI kd), .int (nI r), .int (nI ot), .int (nI ml), .int pl, .int (nI tt), .double 0] [.float 0] _ _ _ _
    refine mp_astore dL_act_407 (ls' := [.ref 0, .int x, .int (nI kd), .int (nI r), .int (nI ot), .int (nI ml), .int pl, .int (nI tt), .float 0]) rfl rfl (by decide) rfl ?_
    refine mt_return dL_act_409 rfl hcc hsc ?_
    exact ⟨rfl, rfl, _, C⟩
set_option maxRecDepth 100000 in
set_option maxHeartbeats 2000000 in
theorem kL_act {l : Launch} (hl : l.stackTraces = false) {h : mH} {n r kd : Nat} {x : Int32} {S : cS} (C : cAt h S) (hr : r < 4) (hkd : kd < 14) : mC l mL_act rL_act [.ref 0, .int x, .int (nI kd), .int (nI r)] h n (fun v h' n' => v = none ∧ n' = n ∧ ∃ S', cAt h' S') (mNX) := by
  obtain ⟨X, hX⟩ : ∃ z, S.1 r = z := ⟨_, rfl⟩
  have hL : X.length ≤ 320 := by rw [← hX]; exact (lenOk_of C).le hr
  refine mm_enterH hl (by decide +kernel) (by intro hh; cases hh) rfl rfl (Nat.le_of_ble_eq_true rfl) ?_
  show mT _ _ _ _ 0 [.ref 0, .int x, .int (nI kd), .int (nI r), .double 0, .double 0, .double 0, .double 0, .double 0] [] _ _ 0 0
  refine mt_joinN (P := fun m1 : Nat => m1 < 100000) (pc2 := 21) (ls2 := fun _ => [.ref 0, .int x, .int (nI kd), .int (nI r), .double 0, .double 0, .double 0, .double 0, .double 0]) (st2 := fun m1 => [.int (nI m1)]) (h2 := h) (n2 := n) (cc2 := 20) (sc2 := 100) (fun m1 hm1 => ?_) (fun kk1 => ?_)
  · have hm1 : m1 < 100000 := hm1
    show mT _ _ _ _ 21 [.ref 0, .int x, .int (nI kd), .int (nI r), .double 0, .double 0, .double 0, .double 0, .double 0] [.int (nI m1)] _ _ _ _
    refine mp_istore dL_act_21 (ls' := [.ref 0, .int x, .int (nI kd), .int (nI r), .int (nI m1), .double 0, .double 0, .double 0, .double 0]) rfl (by decide) rfl ?_
    refine mt_aload_n dL_act_23 rfl rfl ?_
    refine mt_iload_n dL_act_24 rfl ?_
    refine mt_callV (N := mX2_many) (Rc := rX2_many) (As := [.int (nI r)]) (st := []) dL_act_25 ((kX2_many hl C).good (v := .int (nI X.length)) (S' := S) (by rw [g_many hr, hX])) sX2_many mw_213 mKX2 rfl C.1 rfl (Nat.le_of_ble_eq_true rfl) ⟨⟨Nat.le_of_ble_eq_true rfl, Nat.le_of_ble_eq_true rfl⟩, (by simp only [rL_pick, rX2_many, rX2_fill, rX2_add, rX2_put, rX2_drop, rX2_exchange, rX2_swap, rX2_turn, rX2_roll, rX2_keep, rX2_copy, rX2_join, rX2_merge, rX2_clear, rX2_sort, rL_act]; omega), (by simp only [rL_pick, rX2_many, rX2_fill, rX2_add, rX2_put, rX2_drop, rX2_exchange, rX2_swap, rX2_turn, rX2_roll, rX2_keep, rX2_copy, rX2_join, rX2_merge, rX2_clear, rX2_sort, rL_act]; omega)⟩ (fun v2 h3 n4 c5 => ?_) (fun _ _ _ hx => hx.elim)
    obtain ⟨c5a, c5b, c5c, c5d⟩ := c5
    rw [c5a, c5b]
    show mT _ _ _ _ 28 [.ref 0, .int x, .int (nI kd), .int (nI r), .int (nI m1), .double 0, .double 0, .double 0, .double 0] [.int (nI X.length)] _ _ _ _
    refine mp_istore dL_act_28 (ls' := [.ref 0, .int x, .int (nI kd), .int (nI r), .int (nI m1), .int (nI X.length), .double 0, .double 0, .double 0]) rfl (by decide) rfl ?_
    refine mt_joinN (P := fun m6 : Int32 => True) (pc2 := 57) (ls2 := fun _ => [.ref 0, .int x, .int (nI kd), .int (nI r), .int (nI m1), .int (nI X.length), .double 0, .double 0, .double 0]) (st2 := fun m6 => [.int m6]) (h2 := h3) (n2 := n) (cc2 := 40) (sc2 := 300) (fun m6 hm6 => ?_) (fun kk6 => ?_)
    · show mT _ _ _ _ 57 [.ref 0, .int x, .int (nI kd), .int (nI r), .int (nI m1), .int (nI X.length), .double 0, .double 0, .double 0] [.int m6] _ _ _ _
      refine mp_istore dL_act_57 (ls' := [.ref 0, .int x, .int (nI kd), .int (nI r), .int (nI m1), .int (nI X.length), .int m6, .double 0, .double 0]) rfl (by decide) rfl ?_
      refine mt_iload_n dL_act_59 rfl ?_
      refine mt_bipush dL_act_60 (v := nI 9) (by decide) ?_
      refine mt_iload dL_act_62 rfl ?_
      refine mt_iconst dL_act_64 (v := nI 1) rfl ?_
      refine mp_iadd dL_act_65 (v := nI (X.length + 1)) (nI_add _ _) ?_
      refine mt_callS (N := mL_pick) (Rc := rL_pick) (As := [.int x, .int (nI 9), .int (nI (X.length + 1))]) (st := []) dL_act_66 (kL_pick hl (by omega) (by omega)) sL_pick mw_203 rfl (Nat.le_of_ble_eq_true rfl) ⟨⟨Nat.le_of_ble_eq_true rfl, Nat.le_of_ble_eq_true rfl⟩, (by simp only [rL_pick, rX2_many, rX2_fill, rX2_add, rX2_put, rX2_drop, rX2_exchange, rX2_swap, rX2_turn, rX2_roll, rX2_keep, rX2_copy, rX2_join, rX2_merge, rX2_clear, rX2_sort, rL_act]; omega), (by simp only [rL_pick, rX2_many, rX2_fill, rX2_add, rX2_put, rX2_drop, rX2_exchange, rX2_swap, rX2_turn, rX2_roll, rX2_keep, rX2_copy, rX2_join, rX2_merge, rX2_clear, rX2_sort, rL_act]; omega)⟩ (fun v7 h8 n9 c10 => ?_) (fun _ _ _ hx => hx.elim)
      obtain ⟨j11, hj11, c10a, c10b, c10c⟩ := c10
      rw [c10a, c10b, c10c]
      show mT _ _ _ _ 69 [.ref 0, .int x, .int (nI kd), .int (nI r), .int (nI m1), .int (nI X.length), .int m6, .double 0, .double 0] [.int (nI j11)] _ _ _ _
      refine mp_istore dL_act_69 (ls' := [.ref 0, .int x, .int (nI kd), .int (nI r), .int (nI m1), .int (nI X.length), .int m6, .int (nI j11), .double 0]) rfl (by decide) rfl ?_
      refine mt_iload_n dL_act_71 rfl ?_
      obtain rfl | rfl | rfl | rfl | rfl | rfl | rfl | rfl | rfl | rfl | rfl | rfl | rfl | rfl : kd = 0 ∨ kd = 1 ∨ kd = 2 ∨ kd = 3 ∨ kd = 4 ∨ kd = 5 ∨ kd = 6 ∨ kd = 7 ∨ kd = 8 ∨ kd = 9 ∨ kd = 10 ∨ kd = 11 ∨ kd = 12 ∨ kd = 13 := by omega
      · refine mt_tableIn dL_act_72 (off := 68) (by decide +kernel) (by decide +kernel) (by decide +kernel) (tgt := 140) rfl ?_
        refine mt_aload_n dL_act_140 rfl rfl ?_
        refine mt_iload_n dL_act_141 rfl ?_
        refine mt_iload_n dL_act_142 rfl ?_
        refine mt_bipush dL_act_143 (v := nI 10) (by decide) ?_
        refine mt_iconst dL_act_145 (v := nI 5) rfl ?_
        refine mt_callS (N := mL_pick) (Rc := rL_pick) (As := [.int x, .int (nI 10), .int (nI 5)]) (st := [.int (nI r), .ref 0]) dL_act_146 (kL_pick hl (by omega) (by omega)) sL_pick mw_203 rfl (Nat.le_of_ble_eq_true rfl) ⟨⟨Nat.le_of_ble_eq_true rfl, Nat.le_of_ble_eq_true rfl⟩, (by simp only [rL_pick, rX2_many, rX2_fill, rX2_add, rX2_put, rX2_drop, rX2_exchange, rX2_swap, rX2_turn, rX2_roll, rX2_keep, rX2_copy, rX2_join, rX2_merge, rX2_clear, rX2_sort, rL_act]; omega), (by simp only [rL_pick, rX2_many, rX2_fill, rX2_add, rX2_put, rX2_drop, rX2_exchange, rX2_swap, rX2_turn, rX2_roll, rX2_keep, rX2_copy, rX2_join, rX2_merge, rX2_clear, rX2_sort, rL_act]; omega)⟩ (fun v12 h13 n14 c15 => ?_) (fun _ _ _ hx => hx.elim)
        obtain ⟨j16, hj16, c15a, c15b, c15c⟩ := c15
        rw [c15a, c15b, c15c]
        show mT _ _ _ _ 149 [.ref 0, .int x, .int (nI 0), .int (nI r), .int (nI m1), .int (nI X.length), .int m6, .int (nI j11), .double 0] [.int (nI j16), .int (nI r), .ref 0] _ _ _ _
        refine mt_if_ne dL_act_149 (tgt := 164) rfl (fun q17 => ?_) (fun q17 => ?_)
        · have q17 := (not_congr (mI_eq0 (by omega))).mp q17
          refine mt_iload_n dL_act_164 rfl ?_
          refine mt_bipush dL_act_165 (v := nI 11) (by decide) ?_
          refine mt_bipush dL_act_167 (v := nI 30) (by decide) ?_
          refine mt_callS (N := mL_pick) (Rc := rL_pick) (As := [.int x, .int (nI 11), .int (nI 30)]) (st := [.int (nI r), .ref 0]) dL_act_169 (kL_pick hl (by omega) (by omega)) sL_pick mw_203 rfl (Nat.le_of_ble_eq_true rfl) ⟨⟨Nat.le_of_ble_eq_true rfl, Nat.le_of_ble_eq_true rfl⟩, (by simp only [rL_pick, rX2_many, rX2_fill, rX2_add, rX2_put, rX2_drop, rX2_exchange, rX2_swap, rX2_turn, rX2_roll, rX2_keep, rX2_copy, rX2_join, rX2_merge, rX2_clear, rX2_sort, rL_act]; omega), (by simp only [rL_pick, rX2_many, rX2_fill, rX2_add, rX2_put, rX2_drop, rX2_exchange, rX2_swap, rX2_turn, rX2_roll, rX2_keep, rX2_copy, rX2_join, rX2_merge, rX2_clear, rX2_sort, rL_act]; omega)⟩ (fun v18 h19 n20 c21 => ?_) (fun _ _ _ hx => hx.elim)
          obtain ⟨j22, hj22, c21a, c21b, c21c⟩ := c21
          rw [c21a, c21b, c21c]
          show mT _ _ _ _ 172 [.ref 0, .int x, .int (nI 0), .int (nI r), .int (nI m1), .int (nI X.length), .int m6, .int (nI j11), .double 0] [.int (nI j22), .int (nI r), .ref 0] _ _ _ _
          refine mt_iload_n dL_act_172 rfl ?_
          refine mt_bipush dL_act_173 (v := nI 12) (by decide) ?_
          refine mt_bipush dL_act_175 (v := nI 8) (by decide) ?_
          refine mt_callS (N := mL_pick) (Rc := rL_pick) (As := [.int x, .int (nI 12), .int (nI 8)]) (st := [.int (nI j22), .int (nI r), .ref 0]) dL_act_177 (kL_pick hl (by omega) (by omega)) sL_pick mw_203 rfl (Nat.le_of_ble_eq_true rfl) ⟨⟨Nat.le_of_ble_eq_true rfl, Nat.le_of_ble_eq_true rfl⟩, (by simp only [rL_pick, rX2_many, rX2_fill, rX2_add, rX2_put, rX2_drop, rX2_exchange, rX2_swap, rX2_turn, rX2_roll, rX2_keep, rX2_copy, rX2_join, rX2_merge, rX2_clear, rX2_sort, rL_act]; omega), (by simp only [rL_pick, rX2_many, rX2_fill, rX2_add, rX2_put, rX2_drop, rX2_exchange, rX2_swap, rX2_turn, rX2_roll, rX2_keep, rX2_copy, rX2_join, rX2_merge, rX2_clear, rX2_sort, rL_act]; omega)⟩ (fun v23 h24 n25 c26 => ?_) (fun _ _ _ hx => hx.elim)
          obtain ⟨j27, hj27, c26a, c26b, c26c⟩ := c26
          rw [c26a, c26b, c26c]
          show mT _ _ _ _ 180 [.ref 0, .int x, .int (nI 0), .int (nI r), .int (nI m1), .int (nI X.length), .int m6, .int (nI j11), .double 0] [.int (nI j27), .int (nI j22), .int (nI r), .ref 0] _ _ _ _
          refine mt_iload_n dL_act_180 rfl ?_
          refine mt_bipush dL_act_181 (v := nI 13) (by decide) ?_
          refine mt_bipush dL_act_183 (v := nI 61) (by decide) ?_
          refine mt_callS (N := mL_pick) (Rc := rL_pick) (As := [.int x, .int (nI 13), .int (nI 61)]) (st := [.int (nI j27), .int (nI j22), .int (nI r), .ref 0]) dL_act_185 (kL_pick hl (by omega) (by omega)) sL_pick mw_203 rfl (Nat.le_of_ble_eq_true rfl) ⟨⟨Nat.le_of_ble_eq_true rfl, Nat.le_of_ble_eq_true rfl⟩, (by simp only [rL_pick, rX2_many, rX2_fill, rX2_add, rX2_put, rX2_drop, rX2_exchange, rX2_swap, rX2_turn, rX2_roll, rX2_keep, rX2_copy, rX2_join, rX2_merge, rX2_clear, rX2_sort, rL_act]; omega), (by simp only [rL_pick, rX2_many, rX2_fill, rX2_add, rX2_put, rX2_drop, rX2_exchange, rX2_swap, rX2_turn, rX2_roll, rX2_keep, rX2_copy, rX2_join, rX2_merge, rX2_clear, rX2_sort, rL_act]; omega)⟩ (fun v28 h29 n30 c31 => ?_) (fun _ _ _ hx => hx.elim)
          obtain ⟨j32, hj32, c31a, c31b, c31c⟩ := c31
          rw [c31a, c31b, c31c]
          show mT _ _ _ _ 188 [.ref 0, .int x, .int (nI 0), .int (nI r), .int (nI m1), .int (nI X.length), .int m6, .int (nI j11), .double 0] [.int (nI j32), .int (nI j27), .int (nI j22), .int (nI r), .ref 0] _ _ _ _
          refine mt_bipush dL_act_188 (v := nI 30) (by decide) ?_
          refine mp_isub dL_act_190 (v := (nI j32) - (nI 30)) rfl ?_
          refine mt_iload_n dL_act_191 rfl ?_
          refine mt_bipush dL_act_192 (v := nI 14) (by decide) ?_
          refine mt_bipush dL_act_194 (v := nI 20) (by decide) ?_
          refine mt_callS (N := mL_pick) (Rc := rL_pick) (As := [.int x, .int (nI 14), .int (nI 20)]) (st := [.int ((nI j32) - (nI 30)), .int (nI j27), .int (nI j22), .int (nI r), .ref 0]) dL_act_196 (kL_pick hl (by omega) (by omega)) sL_pick mw_203 rfl (Nat.le_of_ble_eq_true rfl) ⟨⟨Nat.le_of_ble_eq_true rfl, Nat.le_of_ble_eq_true rfl⟩, (by simp only [rL_pick, rX2_many, rX2_fill, rX2_add, rX2_put, rX2_drop, rX2_exchange, rX2_swap, rX2_turn, rX2_roll, rX2_keep, rX2_copy, rX2_join, rX2_merge, rX2_clear, rX2_sort, rL_act]; omega), (by simp only [rL_pick, rX2_many, rX2_fill, rX2_add, rX2_put, rX2_drop, rX2_exchange, rX2_swap, rX2_turn, rX2_roll, rX2_keep, rX2_copy, rX2_join, rX2_merge, rX2_clear, rX2_sort, rL_act]; omega)⟩ (fun v33 h34 n35 c36 => ?_) (fun _ _ _ hx => hx.elim)
          obtain ⟨j37, hj37, c36a, c36b, c36c⟩ := c36
          rw [c36a, c36b, c36c]
          show mT _ _ _ _ 199 [.ref 0, .int x, .int (nI 0), .int (nI r), .int (nI m1), .int (nI X.length), .int m6, .int (nI j11), .double 0] [.int (nI j37), .int ((nI j32) - (nI 30)), .int (nI j27), .int (nI j22), .int (nI r), .ref 0] _ _ _ _
          refine mt_callV (N := mX2_fill) (Rc := rX2_fill) (As := [.int (nI r), .int (nI j22), .int (nI j27), .int ((nI j32) - (nI 30)), .int (nI j37)]) (st := []) dL_act_199 ((kX2_fill hl c5c).any oi_fill) sX2_fill mw_288 mKX2 rfl c5c.1 rfl (Nat.le_of_ble_eq_true rfl) ⟨⟨Nat.le_of_ble_eq_true rfl, Nat.le_of_ble_eq_true rfl⟩, (by simp only [rL_pick, rX2_many, rX2_fill, rX2_add, rX2_put, rX2_drop, rX2_exchange, rX2_swap, rX2_turn, rX2_roll, rX2_keep, rX2_copy, rX2_join, rX2_merge, rX2_clear, rX2_sort, rL_act]; omega), (by simp only [rL_pick, rX2_many, rX2_fill, rX2_add, rX2_put, rX2_drop, rX2_exchange, rX2_swap, rX2_turn, rX2_roll, rX2_keep, rX2_copy, rX2_join, rX2_merge, rX2_clear, rX2_sort, rL_act]; omega)⟩ (fun v38 h39 n40 c41 => ?_) (fun E h9 n9 hx => tL_act_x199 c5c (by first | omega | (simp only [rL_pick, rX2_many, rX2_fill, rX2_add, rX2_put, rX2_drop, rX2_exchange, rX2_swap, rX2_turn, rX2_roll, rX2_keep, rX2_copy, rX2_join, rX2_merge, rX2_clear, rX2_sort, rL_act]; omega)) (by first | omega | (simp only [rL_pick, rX2_many, rX2_fill, rX2_add, rX2_put, rX2_drop, rX2_exchange, rX2_swap, rX2_turn, rX2_roll, rX2_keep, rX2_copy, rX2_join, rX2_merge, rX2_clear, rX2_sort, rL_act]; omega)) hx)
          obtain ⟨⟨xc41, c41a⟩, c41b, c41c, c41d⟩ := c41
          rw [c41a, c41b]
          show mT _ _ _ _ 202 [.ref 0, .int x, .int (nI 0), .int (nI r), .int (nI m1), .int (nI X.length), .int m6, .int (nI j11), .double 0] [.int xc41] _ _ _ _
          refine mt_pop dL_act_202 rfl ?_
          refine mt_goto dL_act_203 (tgt := 401) rfl ?_
          refine mt_goto dL_act_401 (tgt := 410) rfl ?_
          refine mt_return dL_act_410 rfl (by simp only [rL_pick, rX2_many, rX2_fill, rX2_add, rX2_put, rX2_drop, rX2_exchange, rX2_swap, rX2_turn, rX2_roll, rX2_keep, rX2_copy, rX2_join, rX2_merge, rX2_clear, rX2_sort, rL_act]; omega) (by simp only [rL_pick, rX2_many, rX2_fill, rX2_add, rX2_put, rX2_drop, rX2_exchange, rX2_swap, rX2_turn, rX2_roll, rX2_keep, rX2_copy, rX2_join, rX2_merge, rX2_clear, rX2_sort, rL_act]; omega) ?_
          exact ⟨rfl, rfl, _, c41c⟩
        · have q17 := (mI_eq0 (by omega)).mp q17
          refine mt_iload_n dL_act_152 rfl ?_
          refine mt_bipush dL_act_153 (v := nI 11) (by decide) ?_
          refine mt_sipush dL_act_155 (v := nI 330) (by decide) ?_
          refine mt_callS (N := mL_pick) (Rc := rL_pick) (As := [.int x, .int (nI 11), .int (nI 330)]) (st := [.int (nI r), .ref 0]) dL_act_158 (kL_pick hl (by omega) (by omega)) sL_pick mw_203 rfl (Nat.le_of_ble_eq_true rfl) ⟨⟨Nat.le_of_ble_eq_true rfl, Nat.le_of_ble_eq_true rfl⟩, (by simp only [rL_pick, rX2_many, rX2_fill, rX2_add, rX2_put, rX2_drop, rX2_exchange, rX2_swap, rX2_turn, rX2_roll, rX2_keep, rX2_copy, rX2_join, rX2_merge, rX2_clear, rX2_sort, rL_act]; omega), (by simp only [rL_pick, rX2_many, rX2_fill, rX2_add, rX2_put, rX2_drop, rX2_exchange, rX2_swap, rX2_turn, rX2_roll, rX2_keep, rX2_copy, rX2_join, rX2_merge, rX2_clear, rX2_sort, rL_act]; omega)⟩ (fun v42 h43 n44 c45 => ?_) (fun _ _ _ hx => hx.elim)
          obtain ⟨j46, hj46, c45a, c45b, c45c⟩ := c45
          rw [c45a, c45b, c45c]
          show mT _ _ _ _ 161 [.ref 0, .int x, .int (nI 0), .int (nI r), .int (nI m1), .int (nI X.length), .int m6, .int (nI j11), .double 0] [.int (nI j46), .int (nI r), .ref 0] _ _ _ _
          refine mt_goto dL_act_161 (tgt := 172) rfl ?_
          refine mt_iload_n dL_act_172 rfl ?_
          refine mt_bipush dL_act_173 (v := nI 12) (by decide) ?_
          refine mt_bipush dL_act_175 (v := nI 8) (by decide) ?_
          refine mt_callS (N := mL_pick) (Rc := rL_pick) (As := [.int x, .int (nI 12), .int (nI 8)]) (st := [.int (nI j46), .int (nI r), .ref 0]) dL_act_177 (kL_pick hl (by omega) (by omega)) sL_pick mw_203 rfl (Nat.le_of_ble_eq_true rfl) ⟨⟨Nat.le_of_ble_eq_true rfl, Nat.le_of_ble_eq_true rfl⟩, (by simp only [rL_pick, rX2_many, rX2_fill, rX2_add, rX2_put, rX2_drop, rX2_exchange, rX2_swap, rX2_turn, rX2_roll, rX2_keep, rX2_copy, rX2_join, rX2_merge, rX2_clear, rX2_sort, rL_act]; omega), (by simp only [rL_pick, rX2_many, rX2_fill, rX2_add, rX2_put, rX2_drop, rX2_exchange, rX2_swap, rX2_turn, rX2_roll, rX2_keep, rX2_copy, rX2_join, rX2_merge, rX2_clear, rX2_sort, rL_act]; omega)⟩ (fun v47 h48 n49 c50 => ?_) (fun _ _ _ hx => hx.elim)
          obtain ⟨j51, hj51, c50a, c50b, c50c⟩ := c50
          rw [c50a, c50b, c50c]
          show mT _ _ _ _ 180 [.ref 0, .int x, .int (nI 0), .int (nI r), .int (nI m1), .int (nI X.length), .int m6, .int (nI j11), .double 0] [.int (nI j51), .int (nI j46), .int (nI r), .ref 0] _ _ _ _
          refine mt_iload_n dL_act_180 rfl ?_
          refine mt_bipush dL_act_181 (v := nI 13) (by decide) ?_
          refine mt_bipush dL_act_183 (v := nI 61) (by decide) ?_
          refine mt_callS (N := mL_pick) (Rc := rL_pick) (As := [.int x, .int (nI 13), .int (nI 61)]) (st := [.int (nI j51), .int (nI j46), .int (nI r), .ref 0]) dL_act_185 (kL_pick hl (by omega) (by omega)) sL_pick mw_203 rfl (Nat.le_of_ble_eq_true rfl) ⟨⟨Nat.le_of_ble_eq_true rfl, Nat.le_of_ble_eq_true rfl⟩, (by simp only [rL_pick, rX2_many, rX2_fill, rX2_add, rX2_put, rX2_drop, rX2_exchange, rX2_swap, rX2_turn, rX2_roll, rX2_keep, rX2_copy, rX2_join, rX2_merge, rX2_clear, rX2_sort, rL_act]; omega), (by simp only [rL_pick, rX2_many, rX2_fill, rX2_add, rX2_put, rX2_drop, rX2_exchange, rX2_swap, rX2_turn, rX2_roll, rX2_keep, rX2_copy, rX2_join, rX2_merge, rX2_clear, rX2_sort, rL_act]; omega)⟩ (fun v52 h53 n54 c55 => ?_) (fun _ _ _ hx => hx.elim)
          obtain ⟨j56, hj56, c55a, c55b, c55c⟩ := c55
          rw [c55a, c55b, c55c]
          show mT _ _ _ _ 188 [.ref 0, .int x, .int (nI 0), .int (nI r), .int (nI m1), .int (nI X.length), .int m6, .int (nI j11), .double 0] [.int (nI j56), .int (nI j51), .int (nI j46), .int (nI r), .ref 0] _ _ _ _
          refine mt_bipush dL_act_188 (v := nI 30) (by decide) ?_
          refine mp_isub dL_act_190 (v := (nI j56) - (nI 30)) rfl ?_
          refine mt_iload_n dL_act_191 rfl ?_
          refine mt_bipush dL_act_192 (v := nI 14) (by decide) ?_
          refine mt_bipush dL_act_194 (v := nI 20) (by decide) ?_
          refine mt_callS (N := mL_pick) (Rc := rL_pick) (As := [.int x, .int (nI 14), .int (nI 20)]) (st := [.int ((nI j56) - (nI 30)), .int (nI j51), .int (nI j46), .int (nI r), .ref 0]) dL_act_196 (kL_pick hl (by omega) (by omega)) sL_pick mw_203 rfl (Nat.le_of_ble_eq_true rfl) ⟨⟨Nat.le_of_ble_eq_true rfl, Nat.le_of_ble_eq_true rfl⟩, (by simp only [rL_pick, rX2_many, rX2_fill, rX2_add, rX2_put, rX2_drop, rX2_exchange, rX2_swap, rX2_turn, rX2_roll, rX2_keep, rX2_copy, rX2_join, rX2_merge, rX2_clear, rX2_sort, rL_act]; omega), (by simp only [rL_pick, rX2_many, rX2_fill, rX2_add, rX2_put, rX2_drop, rX2_exchange, rX2_swap, rX2_turn, rX2_roll, rX2_keep, rX2_copy, rX2_join, rX2_merge, rX2_clear, rX2_sort, rL_act]; omega)⟩ (fun v57 h58 n59 c60 => ?_) (fun _ _ _ hx => hx.elim)
          obtain ⟨j61, hj61, c60a, c60b, c60c⟩ := c60
          rw [c60a, c60b, c60c]
          show mT _ _ _ _ 199 [.ref 0, .int x, .int (nI 0), .int (nI r), .int (nI m1), .int (nI X.length), .int m6, .int (nI j11), .double 0] [.int (nI j61), .int ((nI j56) - (nI 30)), .int (nI j51), .int (nI j46), .int (nI r), .ref 0] _ _ _ _
          refine mt_callV (N := mX2_fill) (Rc := rX2_fill) (As := [.int (nI r), .int (nI j46), .int (nI j51), .int ((nI j56) - (nI 30)), .int (nI j61)]) (st := []) dL_act_199 ((kX2_fill hl c5c).any oi_fill) sX2_fill mw_288 mKX2 rfl c5c.1 rfl (Nat.le_of_ble_eq_true rfl) ⟨⟨Nat.le_of_ble_eq_true rfl, Nat.le_of_ble_eq_true rfl⟩, (by simp only [rL_pick, rX2_many, rX2_fill, rX2_add, rX2_put, rX2_drop, rX2_exchange, rX2_swap, rX2_turn, rX2_roll, rX2_keep, rX2_copy, rX2_join, rX2_merge, rX2_clear, rX2_sort, rL_act]; omega), (by simp only [rL_pick, rX2_many, rX2_fill, rX2_add, rX2_put, rX2_drop, rX2_exchange, rX2_swap, rX2_turn, rX2_roll, rX2_keep, rX2_copy, rX2_join, rX2_merge, rX2_clear, rX2_sort, rL_act]; omega)⟩ (fun v62 h63 n64 c65 => ?_) (fun E h9 n9 hx => tL_act_x199 c5c (by first | omega | (simp only [rL_pick, rX2_many, rX2_fill, rX2_add, rX2_put, rX2_drop, rX2_exchange, rX2_swap, rX2_turn, rX2_roll, rX2_keep, rX2_copy, rX2_join, rX2_merge, rX2_clear, rX2_sort, rL_act]; omega)) (by first | omega | (simp only [rL_pick, rX2_many, rX2_fill, rX2_add, rX2_put, rX2_drop, rX2_exchange, rX2_swap, rX2_turn, rX2_roll, rX2_keep, rX2_copy, rX2_join, rX2_merge, rX2_clear, rX2_sort, rL_act]; omega)) hx)
          obtain ⟨⟨xc65, c65a⟩, c65b, c65c, c65d⟩ := c65
          rw [c65a, c65b]
          show mT _ _ _ _ 202 [.ref 0, .int x, .int (nI 0), .int (nI r), .int (nI m1), .int (nI X.length), .int m6, .int (nI j11), .double 0] [.int xc65] _ _ _ _
          refine mt_pop dL_act_202 rfl ?_
          refine mt_goto dL_act_203 (tgt := 401) rfl ?_
          refine mt_goto dL_act_401 (tgt := 410) rfl ?_
          refine mt_return dL_act_410 rfl (by simp only [rL_pick, rX2_many, rX2_fill, rX2_add, rX2_put, rX2_drop, rX2_exchange, rX2_swap, rX2_turn, rX2_roll, rX2_keep, rX2_copy, rX2_join, rX2_merge, rX2_clear, rX2_sort, rL_act]; omega) (by simp only [rL_pick, rX2_many, rX2_fill, rX2_add, rX2_put, rX2_drop, rX2_exchange, rX2_swap, rX2_turn, rX2_roll, rX2_keep, rX2_copy, rX2_join, rX2_merge, rX2_clear, rX2_sort, rL_act]; omega) ?_
          exact ⟨rfl, rfl, _, c65c⟩
      · refine mt_tableIn dL_act_72 (off := 68) (by decide +kernel) (by decide +kernel) (by decide +kernel) (tgt := 140) rfl ?_
        refine mt_aload_n dL_act_140 rfl rfl ?_
        refine mt_iload_n dL_act_141 rfl ?_
        refine mt_iload_n dL_act_142 rfl ?_
        refine mt_bipush dL_act_143 (v := nI 10) (by decide) ?_
        refine mt_iconst dL_act_145 (v := nI 5) rfl ?_
        refine mt_callS (N := mL_pick) (Rc := rL_pick) (As := [.int x, .int (nI 10), .int (nI 5)]) (st := [.int (nI r), .ref 0]) dL_act_146 (kL_pick hl (by omega) (by omega)) sL_pick mw_203 rfl (Nat.le_of_ble_eq_true rfl) ⟨⟨Nat.le_of_ble_eq_true rfl, Nat.le_of_ble_eq_true rfl⟩, (by simp only [rL_pick, rX2_many, rX2_fill, rX2_add, rX2_put, rX2_drop, rX2_exchange, rX2_swap, rX2_turn, rX2_roll, rX2_keep, rX2_copy, rX2_join, rX2_merge, rX2_clear, rX2_sort, rL_act]; omega), (by simp only [rL_pick, rX2_many, rX2_fill, rX2_add, rX2_put, rX2_drop, rX2_exchange, rX2_swap, rX2_turn, rX2_roll, rX2_keep, rX2_copy, rX2_join, rX2_merge, rX2_clear, rX2_sort, rL_act]; omega)⟩ (fun v66 h67 n68 c69 => ?_) (fun _ _ _ hx => hx.elim)
        obtain ⟨j70, hj70, c69a, c69b, c69c⟩ := c69
        rw [c69a, c69b, c69c]
        show mT _ _ _ _ 149 [.ref 0, .int x, .int (nI 1), .int (nI r), .int (nI m1), .int (nI X.length), .int m6, .int (nI j11), .double 0] [.int (nI j70), .int (nI r), .ref 0] _ _ _ _
        refine mt_if_ne dL_act_149 (tgt := 164) rfl (fun q71 => ?_) (fun q71 => ?_)
        · have q71 := (not_congr (mI_eq0 (by omega))).mp q71
          refine mt_iload_n dL_act_164 rfl ?_
          refine mt_bipush dL_act_165 (v := nI 11) (by decide) ?_
          refine mt_bipush dL_act_167 (v := nI 30) (by decide) ?_
          refine mt_callS (N := mL_pick) (Rc := rL_pick) (As := [.int x, .int (nI 11), .int (nI 30)]) (st := [.int (nI r), .ref 0]) dL_act_169 (kL_pick hl (by omega) (by omega)) sL_pick mw_203 rfl (Nat.le_of_ble_eq_true rfl) ⟨⟨Nat.le_of_ble_eq_true rfl, Nat.le_of_ble_eq_true rfl⟩, (by simp only [rL_pick, rX2_many, rX2_fill, rX2_add, rX2_put, rX2_drop, rX2_exchange, rX2_swap, rX2_turn, rX2_roll, rX2_keep, rX2_copy, rX2_join, rX2_merge, rX2_clear, rX2_sort, rL_act]; omega), (by simp only [rL_pick, rX2_many, rX2_fill, rX2_add, rX2_put, rX2_drop, rX2_exchange, rX2_swap, rX2_turn, rX2_roll, rX2_keep, rX2_copy, rX2_join, rX2_merge, rX2_clear, rX2_sort, rL_act]; omega)⟩ (fun v72 h73 n74 c75 => ?_) (fun _ _ _ hx => hx.elim)
          obtain ⟨j76, hj76, c75a, c75b, c75c⟩ := c75
          rw [c75a, c75b, c75c]
          show mT _ _ _ _ 172 [.ref 0, .int x, .int (nI 1), .int (nI r), .int (nI m1), .int (nI X.length), .int m6, .int (nI j11), .double 0] [.int (nI j76), .int (nI r), .ref 0] _ _ _ _
          refine mt_iload_n dL_act_172 rfl ?_
          refine mt_bipush dL_act_173 (v := nI 12) (by decide) ?_
          refine mt_bipush dL_act_175 (v := nI 8) (by decide) ?_
          refine mt_callS (N := mL_pick) (Rc := rL_pick) (As := [.int x, .int (nI 12), .int (nI 8)]) (st := [.int (nI j76), .int (nI r), .ref 0]) dL_act_177 (kL_pick hl (by omega) (by omega)) sL_pick mw_203 rfl (Nat.le_of_ble_eq_true rfl) ⟨⟨Nat.le_of_ble_eq_true rfl, Nat.le_of_ble_eq_true rfl⟩, (by simp only [rL_pick, rX2_many, rX2_fill, rX2_add, rX2_put, rX2_drop, rX2_exchange, rX2_swap, rX2_turn, rX2_roll, rX2_keep, rX2_copy, rX2_join, rX2_merge, rX2_clear, rX2_sort, rL_act]; omega), (by simp only [rL_pick, rX2_many, rX2_fill, rX2_add, rX2_put, rX2_drop, rX2_exchange, rX2_swap, rX2_turn, rX2_roll, rX2_keep, rX2_copy, rX2_join, rX2_merge, rX2_clear, rX2_sort, rL_act]; omega)⟩ (fun v77 h78 n79 c80 => ?_) (fun _ _ _ hx => hx.elim)
          obtain ⟨j81, hj81, c80a, c80b, c80c⟩ := c80
          rw [c80a, c80b, c80c]
          show mT _ _ _ _ 180 [.ref 0, .int x, .int (nI 1), .int (nI r), .int (nI m1), .int (nI X.length), .int m6, .int (nI j11), .double 0] [.int (nI j81), .int (nI j76), .int (nI r), .ref 0] _ _ _ _
          refine mt_iload_n dL_act_180 rfl ?_
          refine mt_bipush dL_act_181 (v := nI 13) (by decide) ?_
          refine mt_bipush dL_act_183 (v := nI 61) (by decide) ?_
          refine mt_callS (N := mL_pick) (Rc := rL_pick) (As := [.int x, .int (nI 13), .int (nI 61)]) (st := [.int (nI j81), .int (nI j76), .int (nI r), .ref 0]) dL_act_185 (kL_pick hl (by omega) (by omega)) sL_pick mw_203 rfl (Nat.le_of_ble_eq_true rfl) ⟨⟨Nat.le_of_ble_eq_true rfl, Nat.le_of_ble_eq_true rfl⟩, (by simp only [rL_pick, rX2_many, rX2_fill, rX2_add, rX2_put, rX2_drop, rX2_exchange, rX2_swap, rX2_turn, rX2_roll, rX2_keep, rX2_copy, rX2_join, rX2_merge, rX2_clear, rX2_sort, rL_act]; omega), (by simp only [rL_pick, rX2_many, rX2_fill, rX2_add, rX2_put, rX2_drop, rX2_exchange, rX2_swap, rX2_turn, rX2_roll, rX2_keep, rX2_copy, rX2_join, rX2_merge, rX2_clear, rX2_sort, rL_act]; omega)⟩ (fun v82 h83 n84 c85 => ?_) (fun _ _ _ hx => hx.elim)
          obtain ⟨j86, hj86, c85a, c85b, c85c⟩ := c85
          rw [c85a, c85b, c85c]
          show mT _ _ _ _ 188 [.ref 0, .int x, .int (nI 1), .int (nI r), .int (nI m1), .int (nI X.length), .int m6, .int (nI j11), .double 0] [.int (nI j86), .int (nI j81), .int (nI j76), .int (nI r), .ref 0] _ _ _ _
          refine mt_bipush dL_act_188 (v := nI 30) (by decide) ?_
          refine mp_isub dL_act_190 (v := (nI j86) - (nI 30)) rfl ?_
          refine mt_iload_n dL_act_191 rfl ?_
          refine mt_bipush dL_act_192 (v := nI 14) (by decide) ?_
          refine mt_bipush dL_act_194 (v := nI 20) (by decide) ?_
          refine mt_callS (N := mL_pick) (Rc := rL_pick) (As := [.int x, .int (nI 14), .int (nI 20)]) (st := [.int ((nI j86) - (nI 30)), .int (nI j81), .int (nI j76), .int (nI r), .ref 0]) dL_act_196 (kL_pick hl (by omega) (by omega)) sL_pick mw_203 rfl (Nat.le_of_ble_eq_true rfl) ⟨⟨Nat.le_of_ble_eq_true rfl, Nat.le_of_ble_eq_true rfl⟩, (by simp only [rL_pick, rX2_many, rX2_fill, rX2_add, rX2_put, rX2_drop, rX2_exchange, rX2_swap, rX2_turn, rX2_roll, rX2_keep, rX2_copy, rX2_join, rX2_merge, rX2_clear, rX2_sort, rL_act]; omega), (by simp only [rL_pick, rX2_many, rX2_fill, rX2_add, rX2_put, rX2_drop, rX2_exchange, rX2_swap, rX2_turn, rX2_roll, rX2_keep, rX2_copy, rX2_join, rX2_merge, rX2_clear, rX2_sort, rL_act]; omega)⟩ (fun v87 h88 n89 c90 => ?_) (fun _ _ _ hx => hx.elim)
          obtain ⟨j91, hj91, c90a, c90b, c90c⟩ := c90
          rw [c90a, c90b, c90c]
          show mT _ _ _ _ 199 [.ref 0, .int x, .int (nI 1), .int (nI r), .int (nI m1), .int (nI X.length), .int m6, .int (nI j11), .double 0] [.int (nI j91), .int ((nI j86) - (nI 30)), .int (nI j81), .int (nI j76), .int (nI r), .ref 0] _ _ _ _
          refine mt_callV (N := mX2_fill) (Rc := rX2_fill) (As := [.int (nI r), .int (nI j76), .int (nI j81), .int ((nI j86) - (nI 30)), .int (nI j91)]) (st := []) dL_act_199 ((kX2_fill hl c5c).any oi_fill) sX2_fill mw_288 mKX2 rfl c5c.1 rfl (Nat.le_of_ble_eq_true rfl) ⟨⟨Nat.le_of_ble_eq_true rfl, Nat.le_of_ble_eq_true rfl⟩, (by simp only [rL_pick, rX2_many, rX2_fill, rX2_add, rX2_put, rX2_drop, rX2_exchange, rX2_swap, rX2_turn, rX2_roll, rX2_keep, rX2_copy, rX2_join, rX2_merge, rX2_clear, rX2_sort, rL_act]; omega), (by simp only [rL_pick, rX2_many, rX2_fill, rX2_add, rX2_put, rX2_drop, rX2_exchange, rX2_swap, rX2_turn, rX2_roll, rX2_keep, rX2_copy, rX2_join, rX2_merge, rX2_clear, rX2_sort, rL_act]; omega)⟩ (fun v92 h93 n94 c95 => ?_) (fun E h9 n9 hx => tL_act_x199 c5c (by first | omega | (simp only [rL_pick, rX2_many, rX2_fill, rX2_add, rX2_put, rX2_drop, rX2_exchange, rX2_swap, rX2_turn, rX2_roll, rX2_keep, rX2_copy, rX2_join, rX2_merge, rX2_clear, rX2_sort, rL_act]; omega)) (by first | omega | (simp only [rL_pick, rX2_many, rX2_fill, rX2_add, rX2_put, rX2_drop, rX2_exchange, rX2_swap, rX2_turn, rX2_roll, rX2_keep, rX2_copy, rX2_join, rX2_merge, rX2_clear, rX2_sort, rL_act]; omega)) hx)
          obtain ⟨⟨xc95, c95a⟩, c95b, c95c, c95d⟩ := c95
          rw [c95a, c95b]
          show mT _ _ _ _ 202 [.ref 0, .int x, .int (nI 1), .int (nI r), .int (nI m1), .int (nI X.length), .int m6, .int (nI j11), .double 0] [.int xc95] _ _ _ _
          refine mt_pop dL_act_202 rfl ?_
          refine mt_goto dL_act_203 (tgt := 401) rfl ?_
          refine mt_goto dL_act_401 (tgt := 410) rfl ?_
          refine mt_return dL_act_410 rfl (by simp only [rL_pick, rX2_many, rX2_fill, rX2_add, rX2_put, rX2_drop, rX2_exchange, rX2_swap, rX2_turn, rX2_roll, rX2_keep, rX2_copy, rX2_join, rX2_merge, rX2_clear, rX2_sort, rL_act]; omega) (by simp only [rL_pick, rX2_many, rX2_fill, rX2_add, rX2_put, rX2_drop, rX2_exchange, rX2_swap, rX2_turn, rX2_roll, rX2_keep, rX2_copy, rX2_join, rX2_merge, rX2_clear, rX2_sort, rL_act]; omega) ?_
          exact ⟨rfl, rfl, _, c95c⟩
        · have q71 := (mI_eq0 (by omega)).mp q71
          refine mt_iload_n dL_act_152 rfl ?_
          refine mt_bipush dL_act_153 (v := nI 11) (by decide) ?_
          refine mt_sipush dL_act_155 (v := nI 330) (by decide) ?_
          refine mt_callS (N := mL_pick) (Rc := rL_pick) (As := [.int x, .int (nI 11), .int (nI 330)]) (st := [.int (nI r), .ref 0]) dL_act_158 (kL_pick hl (by omega) (by omega)) sL_pick mw_203 rfl (Nat.le_of_ble_eq_true rfl) ⟨⟨Nat.le_of_ble_eq_true rfl, Nat.le_of_ble_eq_true rfl⟩, (by simp only [rL_pick, rX2_many, rX2_fill, rX2_add, rX2_put, rX2_drop, rX2_exchange, rX2_swap, rX2_turn, rX2_roll, rX2_keep, rX2_copy, rX2_join, rX2_merge, rX2_clear, rX2_sort, rL_act]; omega), (by simp only [rL_pick, rX2_many, rX2_fill, rX2_add, rX2_put, rX2_drop, rX2_exchange, rX2_swap, rX2_turn, rX2_roll, rX2_keep, rX2_copy, rX2_join, rX2_merge, rX2_clear, rX2_sort, rL_act]; omega)⟩ (fun v96 h97 n98 c99 => ?_) (fun _ _ _ hx => hx.elim)
          obtain ⟨j100, hj100, c99a, c99b, c99c⟩ := c99
          rw [c99a, c99b, c99c]
          show mT _ _ _ _ 161 [.ref 0, .int x, .int (nI 1), .int (nI r), .int (nI m1), .int (nI X.length), .int m6, .int (nI j11), .double 0] [.int (nI j100), .int (nI r), .ref 0] _ _ _ _
          refine mt_goto dL_act_161 (tgt := 172) rfl ?_
          refine mt_iload_n dL_act_172 rfl ?_
          refine mt_bipush dL_act_173 (v := nI 12) (by decide) ?_
          refine mt_bipush dL_act_175 (v := nI 8) (by decide) ?_
          refine mt_callS (N := mL_pick) (Rc := rL_pick) (As := [.int x, .int (nI 12), .int (nI 8)]) (st := [.int (nI j100), .int (nI r), .ref 0]) dL_act_177 (kL_pick hl (by omega) (by omega)) sL_pick mw_203 rfl (Nat.le_of_ble_eq_true rfl) ⟨⟨Nat.le_of_ble_eq_true rfl, Nat.le_of_ble_eq_true rfl⟩, (by simp only [rL_pick, rX2_many, rX2_fill, rX2_add, rX2_put, rX2_drop, rX2_exchange, rX2_swap, rX2_turn, rX2_roll, rX2_keep, rX2_copy, rX2_join, rX2_merge, rX2_clear, rX2_sort, rL_act]; omega), (by simp only [rL_pick, rX2_many, rX2_fill, rX2_add, rX2_put, rX2_drop, rX2_exchange, rX2_swap, rX2_turn, rX2_roll, rX2_keep, rX2_copy, rX2_join, rX2_merge, rX2_clear, rX2_sort, rL_act]; omega)⟩ (fun v101 h102 n103 c104 => ?_) (fun _ _ _ hx => hx.elim)
          obtain ⟨j105, hj105, c104a, c104b, c104c⟩ := c104
          rw [c104a, c104b, c104c]
          show mT _ _ _ _ 180 [.ref 0, .int x, .int (nI 1), .int (nI r), .int (nI m1), .int (nI X.length), .int m6, .int (nI j11), .double 0] [.int (nI j105), .int (nI j100), .int (nI r), .ref 0] _ _ _ _
          refine mt_iload_n dL_act_180 rfl ?_
          refine mt_bipush dL_act_181 (v := nI 13) (by decide) ?_
          refine mt_bipush dL_act_183 (v := nI 61) (by decide) ?_
          refine mt_callS (N := mL_pick) (Rc := rL_pick) (As := [.int x, .int (nI 13), .int (nI 61)]) (st := [.int (nI j105), .int (nI j100), .int (nI r), .ref 0]) dL_act_185 (kL_pick hl (by omega) (by omega)) sL_pick mw_203 rfl (Nat.le_of_ble_eq_true rfl) ⟨⟨Nat.le_of_ble_eq_true rfl, Nat.le_of_ble_eq_true rfl⟩, (by simp only [rL_pick, rX2_many, rX2_fill, rX2_add, rX2_put, rX2_drop, rX2_exchange, rX2_swap, rX2_turn, rX2_roll, rX2_keep, rX2_copy, rX2_join, rX2_merge, rX2_clear, rX2_sort, rL_act]; omega), (by simp only [rL_pick, rX2_many, rX2_fill, rX2_add, rX2_put, rX2_drop, rX2_exchange, rX2_swap, rX2_turn, rX2_roll, rX2_keep, rX2_copy, rX2_join, rX2_merge, rX2_clear, rX2_sort, rL_act]; omega)⟩ (fun v106 h107 n108 c109 => ?_) (fun _ _ _ hx => hx.elim)
          obtain ⟨j110, hj110, c109a, c109b, c109c⟩ := c109
          rw [c109a, c109b, c109c]
          show mT _ _ _ _ 188 [.ref 0, .int x, .int (nI 1), .int (nI r), .int (nI m1), .int (nI X.length), .int m6, .int (nI j11), .double 0] [.int (nI j110), .int (nI j105), .int (nI j100), .int (nI r), .ref 0] _ _ _ _
          refine mt_bipush dL_act_188 (v := nI 30) (by decide) ?_
          refine mp_isub dL_act_190 (v := (nI j110) - (nI 30)) rfl ?_
          refine mt_iload_n dL_act_191 rfl ?_
          refine mt_bipush dL_act_192 (v := nI 14) (by decide) ?_
          refine mt_bipush dL_act_194 (v := nI 20) (by decide) ?_
          refine mt_callS (N := mL_pick) (Rc := rL_pick) (As := [.int x, .int (nI 14), .int (nI 20)]) (st := [.int ((nI j110) - (nI 30)), .int (nI j105), .int (nI j100), .int (nI r), .ref 0]) dL_act_196 (kL_pick hl (by omega) (by omega)) sL_pick mw_203 rfl (Nat.le_of_ble_eq_true rfl) ⟨⟨Nat.le_of_ble_eq_true rfl, Nat.le_of_ble_eq_true rfl⟩, (by simp only [rL_pick, rX2_many, rX2_fill, rX2_add, rX2_put, rX2_drop, rX2_exchange, rX2_swap, rX2_turn, rX2_roll, rX2_keep, rX2_copy, rX2_join, rX2_merge, rX2_clear, rX2_sort, rL_act]; omega), (by simp only [rL_pick, rX2_many, rX2_fill, rX2_add, rX2_put, rX2_drop, rX2_exchange, rX2_swap, rX2_turn, rX2_roll, rX2_keep, rX2_copy, rX2_join, rX2_merge, rX2_clear, rX2_sort, rL_act]; omega)⟩ (fun v111 h112 n113 c114 => ?_) (fun _ _ _ hx => hx.elim)
          obtain ⟨j115, hj115, c114a, c114b, c114c⟩ := c114
          rw [c114a, c114b, c114c]
          show mT _ _ _ _ 199 [.ref 0, .int x, .int (nI 1), .int (nI r), .int (nI m1), .int (nI X.length), .int m6, .int (nI j11), .double 0] [.int (nI j115), .int ((nI j110) - (nI 30)), .int (nI j105), .int (nI j100), .int (nI r), .ref 0] _ _ _ _
          refine mt_callV (N := mX2_fill) (Rc := rX2_fill) (As := [.int (nI r), .int (nI j100), .int (nI j105), .int ((nI j110) - (nI 30)), .int (nI j115)]) (st := []) dL_act_199 ((kX2_fill hl c5c).any oi_fill) sX2_fill mw_288 mKX2 rfl c5c.1 rfl (Nat.le_of_ble_eq_true rfl) ⟨⟨Nat.le_of_ble_eq_true rfl, Nat.le_of_ble_eq_true rfl⟩, (by simp only [rL_pick, rX2_many, rX2_fill, rX2_add, rX2_put, rX2_drop, rX2_exchange, rX2_swap, rX2_turn, rX2_roll, rX2_keep, rX2_copy, rX2_join, rX2_merge, rX2_clear, rX2_sort, rL_act]; omega), (by simp only [rL_pick, rX2_many, rX2_fill, rX2_add, rX2_put, rX2_drop, rX2_exchange, rX2_swap, rX2_turn, rX2_roll, rX2_keep, rX2_copy, rX2_join, rX2_merge, rX2_clear, rX2_sort, rL_act]; omega)⟩ (fun v116 h117 n118 c119 => ?_) (fun E h9 n9 hx => tL_act_x199 c5c (by first | omega | (simp only [rL_pick, rX2_many, rX2_fill, rX2_add, rX2_put, rX2_drop, rX2_exchange, rX2_swap, rX2_turn, rX2_roll, rX2_keep, rX2_copy, rX2_join, rX2_merge, rX2_clear, rX2_sort, rL_act]; omega)) (by first | omega | (simp only [rL_pick, rX2_many, rX2_fill, rX2_add, rX2_put, rX2_drop, rX2_exchange, rX2_swap, rX2_turn, rX2_roll, rX2_keep, rX2_copy, rX2_join, rX2_merge, rX2_clear, rX2_sort, rL_act]; omega)) hx)
          obtain ⟨⟨xc119, c119a⟩, c119b, c119c, c119d⟩ := c119
          rw [c119a, c119b]
          show mT _ _ _ _ 202 [.ref 0, .int x, .int (nI 1), .int (nI r), .int (nI m1), .int (nI X.length), .int m6, .int (nI j11), .double 0] [.int xc119] _ _ _ _
          refine mt_pop dL_act_202 rfl ?_
          refine mt_goto dL_act_203 (tgt := 401) rfl ?_
          refine mt_goto dL_act_401 (tgt := 410) rfl ?_
          refine mt_return dL_act_410 rfl (by simp only [rL_pick, rX2_many, rX2_fill, rX2_add, rX2_put, rX2_drop, rX2_exchange, rX2_swap, rX2_turn, rX2_roll, rX2_keep, rX2_copy, rX2_join, rX2_merge, rX2_clear, rX2_sort, rL_act]; omega) (by simp only [rL_pick, rX2_many, rX2_fill, rX2_add, rX2_put, rX2_drop, rX2_exchange, rX2_swap, rX2_turn, rX2_roll, rX2_keep, rX2_copy, rX2_join, rX2_merge, rX2_clear, rX2_sort, rL_act]; omega) ?_
          exact ⟨rfl, rfl, _, c119c⟩
      · refine mt_tableIn dL_act_72 (off := 134) (by decide +kernel) (by decide +kernel) (by decide +kernel) (tgt := 206) rfl ?_
        refine mt_aload_n dL_act_206 rfl rfl ?_
        refine mt_iload_n dL_act_207 rfl ?_
        refine mt_iload_n dL_act_208 rfl ?_
        refine mt_bipush dL_act_209 (v := nI 10) (by decide) ?_
        refine mt_bipush dL_act_211 (v := nI 30) (by decide) ?_
        refine mt_callS (N := mL_pick) (Rc := rL_pick) (As := [.int x, .int (nI 10), .int (nI 30)]) (st := [.int (nI r), .ref 0]) dL_act_213 (kL_pick hl (by omega) (by omega)) sL_pick mw_203 rfl (Nat.le_of_ble_eq_true rfl) ⟨⟨Nat.le_of_ble_eq_true rfl, Nat.le_of_ble_eq_true rfl⟩, (by simp only [rL_pick, rX2_many, rX2_fill, rX2_add, rX2_put, rX2_drop, rX2_exchange, rX2_swap, rX2_turn, rX2_roll, rX2_keep, rX2_copy, rX2_join, rX2_merge, rX2_clear, rX2_sort, rL_act]; omega), (by simp only [rL_pick, rX2_many, rX2_fill, rX2_add, rX2_put, rX2_drop, rX2_exchange, rX2_swap, rX2_turn, rX2_roll, rX2_keep, rX2_copy, rX2_join, rX2_merge, rX2_clear, rX2_sort, rL_act]; omega)⟩ (fun v120 h121 n122 c123 => ?_) (fun _ _ _ hx => hx.elim)
        obtain ⟨j124, hj124, c123a, c123b, c123c⟩ := c123
        rw [c123a, c123b, c123c]
        show mT _ _ _ _ 216 [.ref 0, .int x, .int (nI 2), .int (nI r), .int (nI m1), .int (nI X.length), .int m6, .int (nI j11), .double 0] [.int (nI j124), .int (nI r), .ref 0] _ _ _ _
        refine mt_bipush dL_act_216 (v := nI 15) (by decide) ?_
        refine mp_isub dL_act_218 (v := (nI j124) - (nI 15)) rfl ?_
        refine mt_callV (N := mX2_add) (Rc := rX2_add) (As := [.int (nI r), .int ((nI j124) - (nI 15))]) (st := []) dL_act_219 ((kX2_add hl c5c).any oi_add) sX2_add mw_342 mKX2 rfl c5c.1 rfl (Nat.le_of_ble_eq_true rfl) ⟨⟨Nat.le_of_ble_eq_true rfl, Nat.le_of_ble_eq_true rfl⟩, (by simp only [rL_pick, rX2_many, rX2_fill, rX2_add, rX2_put, rX2_drop, rX2_exchange, rX2_swap, rX2_turn, rX2_roll, rX2_keep, rX2_copy, rX2_join, rX2_merge, rX2_clear, rX2_sort, rL_act]; omega), (by simp only [rL_pick, rX2_many, rX2_fill, rX2_add, rX2_put, rX2_drop, rX2_exchange, rX2_swap, rX2_turn, rX2_roll, rX2_keep, rX2_copy, rX2_join, rX2_merge, rX2_clear, rX2_sort, rL_act]; omega)⟩ (fun v125 h126 n127 c128 => ?_) (fun E h9 n9 hx => tL_act_x219 c5c (by first | omega | (simp only [rL_pick, rX2_many, rX2_fill, rX2_add, rX2_put, rX2_drop, rX2_exchange, rX2_swap, rX2_turn, rX2_roll, rX2_keep, rX2_copy, rX2_join, rX2_merge, rX2_clear, rX2_sort, rL_act]; omega)) (by first | omega | (simp only [rL_pick, rX2_many, rX2_fill, rX2_add, rX2_put, rX2_drop, rX2_exchange, rX2_swap, rX2_turn, rX2_roll, rX2_keep, rX2_copy, rX2_join, rX2_merge, rX2_clear, rX2_sort, rL_act]; omega)) hx)
        obtain ⟨⟨xc128, c128a⟩, c128b, c128c, c128d⟩ := c128
        rw [c128a, c128b]
        show mT _ _ _ _ 222 [.ref 0, .int x, .int (nI 2), .int (nI r), .int (nI m1), .int (nI X.length), .int m6, .int (nI j11), .double 0] [.int xc128] _ _ _ _
        refine mt_pop dL_act_222 rfl ?_
        refine mt_goto dL_act_223 (tgt := 401) rfl ?_
        refine mt_goto dL_act_401 (tgt := 410) rfl ?_
        refine mt_return dL_act_410 rfl (by simp only [rL_pick, rX2_many, rX2_fill, rX2_add, rX2_put, rX2_drop, rX2_exchange, rX2_swap, rX2_turn, rX2_roll, rX2_keep, rX2_copy, rX2_join, rX2_merge, rX2_clear, rX2_sort, rL_act]; omega) (by simp only [rL_pick, rX2_many, rX2_fill, rX2_add, rX2_put, rX2_drop, rX2_exchange, rX2_swap, rX2_turn, rX2_roll, rX2_keep, rX2_copy, rX2_join, rX2_merge, rX2_clear, rX2_sort, rL_act]; omega) ?_
        exact ⟨rfl, rfl, _, c128c⟩
      · refine mt_tableIn dL_act_72 (off := 154) (by decide +kernel) (by decide +kernel) (by decide +kernel) (tgt := 226) rfl ?_
        refine mt_aload_n dL_act_226 rfl rfl ?_
        refine mt_iload_n dL_act_227 rfl ?_
        refine mt_iload dL_act_228 rfl ?_
        refine mt_iload_n dL_act_230 rfl ?_
        refine mt_bipush dL_act_231 (v := nI 10) (by decide) ?_
        refine mt_bipush dL_act_233 (v := nI 30) (by decide) ?_
        refine mt_callS (N := mL_pick) (Rc := rL_pick) (As := [.int x, .int (nI 10), .int (nI 30)]) (st := [.int m6, .int (nI r), .ref 0]) dL_act_235 (kL_pick hl (by omega) (by omega)) sL_pick mw_203 rfl (Nat.le_of_ble_eq_true rfl) ⟨⟨Nat.le_of_ble_eq_true rfl, Nat.le_of_ble_eq_true rfl⟩, (by simp only [rL_pick, rX2_many, rX2_fill, rX2_add, rX2_put, rX2_drop, rX2_exchange, rX2_swap, rX2_turn, rX2_roll, rX2_keep, rX2_copy, rX2_join, rX2_merge, rX2_clear, rX2_sort, rL_act]; omega), (by simp only [rL_pick, rX2_many, rX2_fill, rX2_add, rX2_put, rX2_drop, rX2_exchange, rX2_swap, rX2_turn, rX2_roll, rX2_keep, rX2_copy, rX2_join, rX2_merge, rX2_clear, rX2_sort, rL_act]; omega)⟩ (fun v129 h130 n131 c132 => ?_) (fun _ _ _ hx => hx.elim)
        obtain ⟨j133, hj133, c132a, c132b, c132c⟩ := c132
        rw [c132a, c132b, c132c]
        show mT _ _ _ _ 238 [.ref 0, .int x, .int (nI 3), .int (nI r), .int (nI m1), .int (nI X.length), .int m6, .int (nI j11), .double 0] [.int (nI j133), .int m6, .int (nI r), .ref 0] _ _ _ _
        refine mt_bipush dL_act_238 (v := nI 15) (by decide) ?_
        refine mp_isub dL_act_240 (v := (nI j133) - (nI 15)) rfl ?_
        refine mt_callV (N := mX2_put) (Rc := rX2_put) (As := [.int (nI r), .int m6, .int ((nI j133) - (nI 15))]) (st := []) dL_act_241 ((kX2_put hl c5c).any oi_put) sX2_put mw_355 mKX2 rfl c5c.1 rfl (Nat.le_of_ble_eq_true rfl) ⟨⟨Nat.le_of_ble_eq_true rfl, Nat.le_of_ble_eq_true rfl⟩, (by simp only [rL_pick, rX2_many, rX2_fill, rX2_add, rX2_put, rX2_drop, rX2_exchange, rX2_swap, rX2_turn, rX2_roll, rX2_keep, rX2_copy, rX2_join, rX2_merge, rX2_clear, rX2_sort, rL_act]; omega), (by simp only [rL_pick, rX2_many, rX2_fill, rX2_add, rX2_put, rX2_drop, rX2_exchange, rX2_swap, rX2_turn, rX2_roll, rX2_keep, rX2_copy, rX2_join, rX2_merge, rX2_clear, rX2_sort, rL_act]; omega)⟩ (fun v134 h135 n136 c137 => ?_) (fun E h9 n9 hx => tL_act_x241 c5c (by first | omega | (simp only [rL_pick, rX2_many, rX2_fill, rX2_add, rX2_put, rX2_drop, rX2_exchange, rX2_swap, rX2_turn, rX2_roll, rX2_keep, rX2_copy, rX2_join, rX2_merge, rX2_clear, rX2_sort, rL_act]; omega)) (by first | omega | (simp only [rL_pick, rX2_many, rX2_fill, rX2_add, rX2_put, rX2_drop, rX2_exchange, rX2_swap, rX2_turn, rX2_roll, rX2_keep, rX2_copy, rX2_join, rX2_merge, rX2_clear, rX2_sort, rL_act]; omega)) hx)
        obtain ⟨⟨xc137, c137a⟩, c137b, c137c, c137d⟩ := c137
        rw [c137a, c137b]
        show mT _ _ _ _ 244 [.ref 0, .int x, .int (nI 3), .int (nI r), .int (nI m1), .int (nI X.length), .int m6, .int (nI j11), .double 0] [.int xc137] _ _ _ _
        refine mt_pop dL_act_244 rfl ?_
        refine mt_goto dL_act_245 (tgt := 401) rfl ?_
        refine mt_goto dL_act_401 (tgt := 410) rfl ?_
        refine mt_return dL_act_410 rfl (by simp only [rL_pick, rX2_many, rX2_fill, rX2_add, rX2_put, rX2_drop, rX2_exchange, rX2_swap, rX2_turn, rX2_roll, rX2_keep, rX2_copy, rX2_join, rX2_merge, rX2_clear, rX2_sort, rL_act]; omega) (by simp only [rL_pick, rX2_many, rX2_fill, rX2_add, rX2_put, rX2_drop, rX2_exchange, rX2_swap, rX2_turn, rX2_roll, rX2_keep, rX2_copy, rX2_join, rX2_merge, rX2_clear, rX2_sort, rL_act]; omega) ?_
        exact ⟨rfl, rfl, _, c137c⟩
      · refine mt_tableIn dL_act_72 (off := 176) (by decide +kernel) (by decide +kernel) (by decide +kernel) (tgt := 248) rfl ?_
        refine mt_aload_n dL_act_248 rfl rfl ?_
        refine mt_iload_n dL_act_249 rfl ?_
        refine mt_iload dL_act_250 rfl ?_
        refine mt_callV (N := mX2_drop) (Rc := rX2_drop) (As := [.int (nI r), .int m6]) (st := []) dL_act_252 ((kX2_drop hl c5c).any oi_drop) sX2_drop mw_366 mKX2 rfl c5c.1 rfl (Nat.le_of_ble_eq_true rfl) ⟨⟨Nat.le_of_ble_eq_true rfl, Nat.le_of_ble_eq_true rfl⟩, (by simp only [rL_pick, rX2_many, rX2_fill, rX2_add, rX2_put, rX2_drop, rX2_exchange, rX2_swap, rX2_turn, rX2_roll, rX2_keep, rX2_copy, rX2_join, rX2_merge, rX2_clear, rX2_sort, rL_act]; omega), (by simp only [rL_pick, rX2_many, rX2_fill, rX2_add, rX2_put, rX2_drop, rX2_exchange, rX2_swap, rX2_turn, rX2_roll, rX2_keep, rX2_copy, rX2_join, rX2_merge, rX2_clear, rX2_sort, rL_act]; omega)⟩ (fun v138 h139 n140 c141 => ?_) (fun E h9 n9 hx => tL_act_x252 c5c (by first | omega | (simp only [rL_pick, rX2_many, rX2_fill, rX2_add, rX2_put, rX2_drop, rX2_exchange, rX2_swap, rX2_turn, rX2_roll, rX2_keep, rX2_copy, rX2_join, rX2_merge, rX2_clear, rX2_sort, rL_act]; omega)) (by first | omega | (simp only [rL_pick, rX2_many, rX2_fill, rX2_add, rX2_put, rX2_drop, rX2_exchange, rX2_swap, rX2_turn, rX2_roll, rX2_keep, rX2_copy, rX2_join, rX2_merge, rX2_clear, rX2_sort, rL_act]; omega)) hx)
        obtain ⟨⟨xc141, c141a⟩, c141b, c141c, c141d⟩ := c141
        rw [c141a, c141b]
        show mT _ _ _ _ 255 [.ref 0, .int x, .int (nI 4), .int (nI r), .int (nI m1), .int (nI X.length), .int m6, .int (nI j11), .double 0] [.int xc141] _ _ _ _
        refine mt_pop dL_act_255 rfl ?_
        refine mt_goto dL_act_256 (tgt := 401) rfl ?_
        refine mt_goto dL_act_401 (tgt := 410) rfl ?_
        refine mt_return dL_act_410 rfl (by simp only [rL_pick, rX2_many, rX2_fill, rX2_add, rX2_put, rX2_drop, rX2_exchange, rX2_swap, rX2_turn, rX2_roll, rX2_keep, rX2_copy, rX2_join, rX2_merge, rX2_clear, rX2_sort, rL_act]; omega) (by simp only [rL_pick, rX2_many, rX2_fill, rX2_add, rX2_put, rX2_drop, rX2_exchange, rX2_swap, rX2_turn, rX2_roll, rX2_keep, rX2_copy, rX2_join, rX2_merge, rX2_clear, rX2_sort, rL_act]; omega) ?_
        exact ⟨rfl, rfl, _, c141c⟩
      · refine mt_tableIn dL_act_72 (off := 187) (by decide +kernel) (by decide +kernel) (by decide +kernel) (tgt := 259) rfl ?_
        refine mt_aload_n dL_act_259 rfl rfl ?_
        refine mt_iload_n dL_act_260 rfl ?_
        refine mt_iload dL_act_261 rfl ?_
        refine mt_callV (N := mX2_exchange) (Rc := rX2_exchange) (As := [.int (nI r), .int m6]) (st := []) dL_act_263 ((kX2_exchange hl c5c).any oi_exchange) sX2_exchange mw_370 mKX2 rfl c5c.1 rfl (Nat.le_of_ble_eq_true rfl) ⟨⟨Nat.le_of_ble_eq_true rfl, Nat.le_of_ble_eq_true rfl⟩, (by simp only [rL_pick, rX2_many, rX2_fill, rX2_add, rX2_put, rX2_drop, rX2_exchange, rX2_swap, rX2_turn, rX2_roll, rX2_keep, rX2_copy, rX2_join, rX2_merge, rX2_clear, rX2_sort, rL_act]; omega), (by simp only [rL_pick, rX2_many, rX2_fill, rX2_add, rX2_put, rX2_drop, rX2_exchange, rX2_swap, rX2_turn, rX2_roll, rX2_keep, rX2_copy, rX2_join, rX2_merge, rX2_clear, rX2_sort, rL_act]; omega)⟩ (fun v142 h143 n144 c145 => ?_) (fun E h9 n9 hx => tL_act_x263 c5c (by first | omega | (simp only [rL_pick, rX2_many, rX2_fill, rX2_add, rX2_put, rX2_drop, rX2_exchange, rX2_swap, rX2_turn, rX2_roll, rX2_keep, rX2_copy, rX2_join, rX2_merge, rX2_clear, rX2_sort, rL_act]; omega)) (by first | omega | (simp only [rL_pick, rX2_many, rX2_fill, rX2_add, rX2_put, rX2_drop, rX2_exchange, rX2_swap, rX2_turn, rX2_roll, rX2_keep, rX2_copy, rX2_join, rX2_merge, rX2_clear, rX2_sort, rL_act]; omega)) hx)
        obtain ⟨⟨xc145, c145a⟩, c145b, c145c, c145d⟩ := c145
        rw [c145a, c145b]
        show mT _ _ _ _ 266 [.ref 0, .int x, .int (nI 5), .int (nI r), .int (nI m1), .int (nI X.length), .int m6, .int (nI j11), .double 0] [.int xc145] _ _ _ _
        refine mt_pop dL_act_266 rfl ?_
        refine mt_goto dL_act_267 (tgt := 401) rfl ?_
        refine mt_goto dL_act_401 (tgt := 410) rfl ?_
        refine mt_return dL_act_410 rfl (by simp only [rL_pick, rX2_many, rX2_fill, rX2_add, rX2_put, rX2_drop, rX2_exchange, rX2_swap, rX2_turn, rX2_roll, rX2_keep, rX2_copy, rX2_join, rX2_merge, rX2_clear, rX2_sort, rL_act]; omega) (by simp only [rL_pick, rX2_many, rX2_fill, rX2_add, rX2_put, rX2_drop, rX2_exchange, rX2_swap, rX2_turn, rX2_roll, rX2_keep, rX2_copy, rX2_join, rX2_merge, rX2_clear, rX2_sort, rL_act]; omega) ?_
        exact ⟨rfl, rfl, _, c145c⟩
      · refine mt_tableIn dL_act_72 (off := 198) (by decide +kernel) (by decide +kernel) (by decide +kernel) (tgt := 270) rfl ?_
        refine mt_aload_n dL_act_270 rfl rfl ?_
        refine mt_iload_n dL_act_271 rfl ?_
        refine mt_iload dL_act_272 rfl ?_
        refine mt_iload dL_act_274 rfl ?_
        refine mt_callV (N := mX2_swap) (Rc := rX2_swap) (As := [.int (nI r), .int m6, .int (nI j11)]) (st := []) dL_act_276 ((kX2_swap hl c5c).any oi_swap) sX2_swap mw_385 mKX2 rfl c5c.1 rfl (Nat.le_of_ble_eq_true rfl) ⟨⟨Nat.le_of_ble_eq_true rfl, Nat.le_of_ble_eq_true rfl⟩, (by simp only [rL_pick, rX2_many, rX2_fill, rX2_add, rX2_put, rX2_drop, rX2_exchange, rX2_swap, rX2_turn, rX2_roll, rX2_keep, rX2_copy, rX2_join, rX2_merge, rX2_clear, rX2_sort, rL_act]; omega), (by simp only [rL_pick, rX2_many, rX2_fill, rX2_add, rX2_put, rX2_drop, rX2_exchange, rX2_swap, rX2_turn, rX2_roll, rX2_keep, rX2_copy, rX2_join, rX2_merge, rX2_clear, rX2_sort, rL_act]; omega)⟩ (fun v146 h147 n148 c149 => ?_) (fun E h9 n9 hx => tL_act_x276 c5c (by first | omega | (simp only [rL_pick, rX2_many, rX2_fill, rX2_add, rX2_put, rX2_drop, rX2_exchange, rX2_swap, rX2_turn, rX2_roll, rX2_keep, rX2_copy, rX2_join, rX2_merge, rX2_clear, rX2_sort, rL_act]; omega)) (by first | omega | (simp only [rL_pick, rX2_many, rX2_fill, rX2_add, rX2_put, rX2_drop, rX2_exchange, rX2_swap, rX2_turn, rX2_roll, rX2_keep, rX2_copy, rX2_join, rX2_merge, rX2_clear, rX2_sort, rL_act]; omega)) hx)
        obtain ⟨⟨xc149, c149a⟩, c149b, c149c, c149d⟩ := c149
        rw [c149a, c149b]
        show mT _ _ _ _ 279 [.ref 0, .int x, .int (nI 6), .int (nI r), .int (nI m1), .int (nI X.length), .int m6, .int (nI j11), .double 0] [.int xc149] _ _ _ _
        refine mt_pop dL_act_279 rfl ?_
        refine mt_goto dL_act_280 (tgt := 401) rfl ?_
        refine mt_goto dL_act_401 (tgt := 410) rfl ?_
        refine mt_return dL_act_410 rfl (by simp only [rL_pick, rX2_many, rX2_fill, rX2_add, rX2_put, rX2_drop, rX2_exchange, rX2_swap, rX2_turn, rX2_roll, rX2_keep, rX2_copy, rX2_join, rX2_merge, rX2_clear, rX2_sort, rL_act]; omega) (by simp only [rL_pick, rX2_many, rX2_fill, rX2_add, rX2_put, rX2_drop, rX2_exchange, rX2_swap, rX2_turn, rX2_roll, rX2_keep, rX2_copy, rX2_join, rX2_merge, rX2_clear, rX2_sort, rL_act]; omega) ?_
        exact ⟨rfl, rfl, _, c149c⟩
      · refine mt_tableIn dL_act_72 (off := 211) (by decide +kernel) (by decide +kernel) (by decide +kernel) (tgt := 283) rfl ?_
        refine mt_aload_n dL_act_283 rfl rfl ?_
        refine mt_iload_n dL_act_284 rfl ?_
        refine mt_callV (N := mX2_turn) (Rc := rX2_turn) (As := [.int (nI r)]) (st := []) dL_act_285 ((kX2_turn hl c5c).any oi_turn) sX2_turn mw_389 mKX2 rfl c5c.1 rfl (Nat.le_of_ble_eq_true rfl) ⟨⟨Nat.le_of_ble_eq_true rfl, Nat.le_of_ble_eq_true rfl⟩, (by simp only [rL_pick, rX2_many, rX2_fill, rX2_add, rX2_put, rX2_drop, rX2_exchange, rX2_swap, rX2_turn, rX2_roll, rX2_keep, rX2_copy, rX2_join, rX2_merge, rX2_clear, rX2_sort, rL_act]; omega), (by simp only [rL_pick, rX2_many, rX2_fill, rX2_add, rX2_put, rX2_drop, rX2_exchange, rX2_swap, rX2_turn, rX2_roll, rX2_keep, rX2_copy, rX2_join, rX2_merge, rX2_clear, rX2_sort, rL_act]; omega)⟩ (fun v150 h151 n152 c153 => ?_) (fun E h9 n9 hx => tL_act_x285 c5c (by first | omega | (simp only [rL_pick, rX2_many, rX2_fill, rX2_add, rX2_put, rX2_drop, rX2_exchange, rX2_swap, rX2_turn, rX2_roll, rX2_keep, rX2_copy, rX2_join, rX2_merge, rX2_clear, rX2_sort, rL_act]; omega)) (by first | omega | (simp only [rL_pick, rX2_many, rX2_fill, rX2_add, rX2_put, rX2_drop, rX2_exchange, rX2_swap, rX2_turn, rX2_roll, rX2_keep, rX2_copy, rX2_join, rX2_merge, rX2_clear, rX2_sort, rL_act]; omega)) hx)
        obtain ⟨⟨xc153, c153a⟩, c153b, c153c, c153d⟩ := c153
        rw [c153a, c153b]
        show mT _ _ _ _ 288 [.ref 0, .int x, .int (nI 7), .int (nI r), .int (nI m1), .int (nI X.length), .int m6, .int (nI j11), .double 0] [.int xc153] _ _ _ _
        refine mt_pop dL_act_288 rfl ?_
        refine mt_goto dL_act_289 (tgt := 401) rfl ?_
        refine mt_goto dL_act_401 (tgt := 410) rfl ?_
        refine mt_return dL_act_410 rfl (by simp only [rL_pick, rX2_many, rX2_fill, rX2_add, rX2_put, rX2_drop, rX2_exchange, rX2_swap, rX2_turn, rX2_roll, rX2_keep, rX2_copy, rX2_join, rX2_merge, rX2_clear, rX2_sort, rL_act]; omega) (by simp only [rL_pick, rX2_many, rX2_fill, rX2_add, rX2_put, rX2_drop, rX2_exchange, rX2_swap, rX2_turn, rX2_roll, rX2_keep, rX2_copy, rX2_join, rX2_merge, rX2_clear, rX2_sort, rL_act]; omega) ?_
        exact ⟨rfl, rfl, _, c153c⟩
      · refine mt_tableIn dL_act_72 (off := 220) (by decide +kernel) (by decide +kernel) (by decide +kernel) (tgt := 292) rfl ?_
        refine mt_aload_n dL_act_292 rfl rfl ?_
        refine mt_iload_n dL_act_293 rfl ?_
        refine mt_iload dL_act_294 rfl ?_
        refine mt_callV (N := mX2_roll) (Rc := rX2_roll) (As := [.int (nI r), .int m6]) (st := []) dL_act_296 ((kX2_roll hl c5c).any oi_roll) sX2_roll mw_397 mKX2 rfl c5c.1 rfl (Nat.le_of_ble_eq_true rfl) ⟨⟨Nat.le_of_ble_eq_true rfl, Nat.le_of_ble_eq_true rfl⟩, (by simp only [rL_pick, rX2_many, rX2_fill, rX2_add, rX2_put, rX2_drop, rX2_exchange, rX2_swap, rX2_turn, rX2_roll, rX2_keep, rX2_copy, rX2_join, rX2_merge, rX2_clear, rX2_sort, rL_act]; omega), (by simp only [rL_pick, rX2_many, rX2_fill, rX2_add, rX2_put, rX2_drop, rX2_exchange, rX2_swap, rX2_turn, rX2_roll, rX2_keep, rX2_copy, rX2_join, rX2_merge, rX2_clear, rX2_sort, rL_act]; omega)⟩ (fun v154 h155 n156 c157 => ?_) (fun E h9 n9 hx => tL_act_x296 c5c (by first | omega | (simp only [rL_pick, rX2_many, rX2_fill, rX2_add, rX2_put, rX2_drop, rX2_exchange, rX2_swap, rX2_turn, rX2_roll, rX2_keep, rX2_copy, rX2_join, rX2_merge, rX2_clear, rX2_sort, rL_act]; omega)) (by first | omega | (simp only [rL_pick, rX2_many, rX2_fill, rX2_add, rX2_put, rX2_drop, rX2_exchange, rX2_swap, rX2_turn, rX2_roll, rX2_keep, rX2_copy, rX2_join, rX2_merge, rX2_clear, rX2_sort, rL_act]; omega)) hx)
        obtain ⟨⟨xc157, c157a⟩, c157b, c157c, c157d⟩ := c157
        rw [c157a, c157b]
        show mT _ _ _ _ 299 [.ref 0, .int x, .int (nI 8), .int (nI r), .int (nI m1), .int (nI X.length), .int m6, .int (nI j11), .double 0] [.int xc157] _ _ _ _
        refine mt_pop dL_act_299 rfl ?_
        refine mt_goto dL_act_300 (tgt := 401) rfl ?_
        refine mt_goto dL_act_401 (tgt := 410) rfl ?_
        refine mt_return dL_act_410 rfl (by simp only [rL_pick, rX2_many, rX2_fill, rX2_add, rX2_put, rX2_drop, rX2_exchange, rX2_swap, rX2_turn, rX2_roll, rX2_keep, rX2_copy, rX2_join, rX2_merge, rX2_clear, rX2_sort, rL_act]; omega) (by simp only [rL_pick, rX2_many, rX2_fill, rX2_add, rX2_put, rX2_drop, rX2_exchange, rX2_swap, rX2_turn, rX2_roll, rX2_keep, rX2_copy, rX2_join, rX2_merge, rX2_clear, rX2_sort, rL_act]; omega) ?_
        exact ⟨rfl, rfl, _, c157c⟩
      · refine mt_tableIn dL_act_72 (off := 231) (by decide +kernel) (by decide +kernel) (by decide +kernel) (tgt := 303) rfl ?_
        refine mt_aload_n dL_act_303 rfl rfl ?_
        refine mt_iload_n dL_act_304 rfl ?_
        refine mt_iload_n dL_act_305 rfl ?_
        refine mt_bipush dL_act_306 (v := nI 10) (by decide) ?_
        refine mt_iconst dL_act_308 (v := nI 4) rfl ?_
        refine mt_callS (N := mL_pick) (Rc := rL_pick) (As := [.int x, .int (nI 10), .int (nI 4)]) (st := [.int (nI r), .ref 0]) dL_act_309 (kL_pick hl (by omega) (by omega)) sL_pick mw_203 rfl (Nat.le_of_ble_eq_true rfl) ⟨⟨Nat.le_of_ble_eq_true rfl, Nat.le_of_ble_eq_true rfl⟩, (by simp only [rL_pick, rX2_many, rX2_fill, rX2_add, rX2_put, rX2_drop, rX2_exchange, rX2_swap, rX2_turn, rX2_roll, rX2_keep, rX2_copy, rX2_join, rX2_merge, rX2_clear, rX2_sort, rL_act]; omega), (by simp only [rL_pick, rX2_many, rX2_fill, rX2_add, rX2_put, rX2_drop, rX2_exchange, rX2_swap, rX2_turn, rX2_roll, rX2_keep, rX2_copy, rX2_join, rX2_merge, rX2_clear, rX2_sort, rL_act]; omega)⟩ (fun v158 h159 n160 c161 => ?_) (fun _ _ _ hx => hx.elim)
        obtain ⟨j162, hj162, c161a, c161b, c161c⟩ := c161
        rw [c161a, c161b, c161c]
        show mT _ _ _ _ 312 [.ref 0, .int x, .int (nI 9), .int (nI r), .int (nI m1), .int (nI X.length), .int m6, .int (nI j11), .double 0] [.int (nI j162), .int (nI r), .ref 0] _ _ _ _
        refine mt_if_ne dL_act_312 (tgt := 319) rfl (fun q163 => ?_) (fun q163 => ?_)
        · have q163 := (not_congr (mI_eq0 (by omega))).mp q163
          refine mt_iload_n dL_act_319 rfl ?_
          refine mt_bipush dL_act_320 (v := nI 10) (by decide) ?_
          refine mt_iconst dL_act_322 (v := nI 3) rfl ?_
          refine mt_callS (N := mL_pick) (Rc := rL_pick) (As := [.int x, .int (nI 10), .int (nI 3)]) (st := [.int (nI r), .ref 0]) dL_act_323 (kL_pick hl (by omega) (by omega)) sL_pick mw_203 rfl (Nat.le_of_ble_eq_true rfl) ⟨⟨Nat.le_of_ble_eq_true rfl, Nat.le_of_ble_eq_true rfl⟩, (by simp only [rL_pick, rX2_many, rX2_fill, rX2_add, rX2_put, rX2_drop, rX2_exchange, rX2_swap, rX2_turn, rX2_roll, rX2_keep, rX2_copy, rX2_join, rX2_merge, rX2_clear, rX2_sort, rL_act]; omega), (by simp only [rL_pick, rX2_many, rX2_fill, rX2_add, rX2_put, rX2_drop, rX2_exchange, rX2_swap, rX2_turn, rX2_roll, rX2_keep, rX2_copy, rX2_join, rX2_merge, rX2_clear, rX2_sort, rL_act]; omega)⟩ (fun v164 h165 n166 c167 => ?_) (fun _ _ _ hx => hx.elim)
          obtain ⟨j168, hj168, c167a, c167b, c167c⟩ := c167
          rw [c167a, c167b, c167c]
          show mT _ _ _ _ 326 [.ref 0, .int x, .int (nI 9), .int (nI r), .int (nI m1), .int (nI X.length), .int m6, .int (nI j11), .double 0] [.int (nI j168), .int (nI r), .ref 0] _ _ _ _
          refine mt_iload dL_act_326 rfl ?_
          refine mt_iload_n dL_act_328 rfl ?_
          refine mt_bipush dL_act_329 (v := nI 11) (by decide) ?_
          refine mt_iconst dL_act_331 (v := nI 4) rfl ?_
          refine mt_callS (N := mL_pick) (Rc := rL_pick) (As := [.int x, .int (nI 11), .int (nI 4)]) (st := [.int (nI X.length), .int (nI j168), .int (nI r), .ref 0]) dL_act_332 (kL_pick hl (by omega) (by omega)) sL_pick mw_203 rfl (Nat.le_of_ble_eq_true rfl) ⟨⟨Nat.le_of_ble_eq_true rfl, Nat.le_of_ble_eq_true rfl⟩, (by simp only [rL_pick, rX2_many, rX2_fill, rX2_add, rX2_put, rX2_drop, rX2_exchange, rX2_swap, rX2_turn, rX2_roll, rX2_keep, rX2_copy, rX2_join, rX2_merge, rX2_clear, rX2_sort, rL_act]; omega), (by simp only [rL_pick, rX2_many, rX2_fill, rX2_add, rX2_put, rX2_drop, rX2_exchange, rX2_swap, rX2_turn, rX2_roll, rX2_keep, rX2_copy, rX2_join, rX2_merge, rX2_clear, rX2_sort, rL_act]; omega)⟩ (fun v169 h170 n171 c172 => ?_) (fun _ _ _ hx => hx.elim)
          obtain ⟨j173, hj173, c172a, c172b, c172c⟩ := c172
          rw [c172a, c172b, c172c]
          show mT _ _ _ _ 335 [.ref 0, .int x, .int (nI 9), .int (nI r), .int (nI m1), .int (nI X.length), .int m6, .int (nI j11), .double 0] [.int (nI j173), .int (nI X.length), .int (nI j168), .int (nI r), .ref 0] _ _ _ _
          refine mp_isub dL_act_335 (v := (nI X.length) - (nI j173)) rfl ?_
          refine mt_callV (N := mX2_keep) (Rc := rX2_keep) (As := [.int (nI r), .int (nI j168), .int ((nI X.length) - (nI j173))]) (st := []) dL_act_336 ((kX2_keep hl c5c).any oi_keep) sX2_keep mw_401 mKX2 rfl c5c.1 rfl (Nat.le_of_ble_eq_true rfl) ⟨⟨Nat.le_of_ble_eq_true rfl, Nat.le_of_ble_eq_true rfl⟩, (by simp only [rL_pick, rX2_many, rX2_fill, rX2_add, rX2_put, rX2_drop, rX2_exchange, rX2_swap, rX2_turn, rX2_roll, rX2_keep, rX2_copy, rX2_join, rX2_merge, rX2_clear, rX2_sort, rL_act]; omega), (by simp only [rL_pick, rX2_many, rX2_fill, rX2_add, rX2_put, rX2_drop, rX2_exchange, rX2_swap, rX2_turn, rX2_roll, rX2_keep, rX2_copy, rX2_join, rX2_merge, rX2_clear, rX2_sort, rL_act]; omega)⟩ (fun v174 h175 n176 c177 => ?_) (fun E h9 n9 hx => tL_act_x336 c5c (by first | omega | (simp only [rL_pick, rX2_many, rX2_fill, rX2_add, rX2_put, rX2_drop, rX2_exchange, rX2_swap, rX2_turn, rX2_roll, rX2_keep, rX2_copy, rX2_join, rX2_merge, rX2_clear, rX2_sort, rL_act]; omega)) (by first | omega | (simp only [rL_pick, rX2_many, rX2_fill, rX2_add, rX2_put, rX2_drop, rX2_exchange, rX2_swap, rX2_turn, rX2_roll, rX2_keep, rX2_copy, rX2_join, rX2_merge, rX2_clear, rX2_sort, rL_act]; omega)) hx)
          obtain ⟨⟨xc177, c177a⟩, c177b, c177c, c177d⟩ := c177
          rw [c177a, c177b]
          show mT _ _ _ _ 339 [.ref 0, .int x, .int (nI 9), .int (nI r), .int (nI m1), .int (nI X.length), .int m6, .int (nI j11), .double 0] [.int xc177] _ _ _ _
          refine mt_pop dL_act_339 rfl ?_
          refine mt_goto dL_act_340 (tgt := 401) rfl ?_
          refine mt_goto dL_act_401 (tgt := 410) rfl ?_
          refine mt_return dL_act_410 rfl (by simp only [rL_pick, rX2_many, rX2_fill, rX2_add, rX2_put, rX2_drop, rX2_exchange, rX2_swap, rX2_turn, rX2_roll, rX2_keep, rX2_copy, rX2_join, rX2_merge, rX2_clear, rX2_sort, rL_act]; omega) (by simp only [rL_pick, rX2_many, rX2_fill, rX2_add, rX2_put, rX2_drop, rX2_exchange, rX2_swap, rX2_turn, rX2_roll, rX2_keep, rX2_copy, rX2_join, rX2_merge, rX2_clear, rX2_sort, rL_act]; omega) ?_
          exact ⟨rfl, rfl, _, c177c⟩
        · have q163 := (mI_eq0 (by omega)).mp q163
          refine mt_iconst dL_act_315 (v := nI 0) rfl ?_
          refine mt_goto dL_act_316 (tgt := 326) rfl ?_
          refine mt_iload dL_act_326 rfl ?_
          refine mt_iload_n dL_act_328 rfl ?_
          refine mt_bipush dL_act_329 (v := nI 11) (by decide) ?_
          refine mt_iconst dL_act_331 (v := nI 4) rfl ?_
          refine mt_callS (N := mL_pick) (Rc := rL_pick) (As := [.int x, .int (nI 11), .int (nI 4)]) (st := [.int (nI X.length), .int (nI 0), .int (nI r), .ref 0]) dL_act_332 (kL_pick hl (by omega) (by omega)) sL_pick mw_203 rfl (Nat.le_of_ble_eq_true rfl) ⟨⟨Nat.le_of_ble_eq_true rfl, Nat.le_of_ble_eq_true rfl⟩, (by simp only [rL_pick, rX2_many, rX2_fill, rX2_add, rX2_put, rX2_drop, rX2_exchange, rX2_swap, rX2_turn, rX2_roll, rX2_keep, rX2_copy, rX2_join, rX2_merge, rX2_clear, rX2_sort, rL_act]; omega), (by simp only [rL_pick, rX2_many, rX2_fill, rX2_add, rX2_put, rX2_drop, rX2_exchange, rX2_swap, rX2_turn, rX2_roll, rX2_keep, rX2_copy, rX2_join, rX2_merge, rX2_clear, rX2_sort, rL_act]; omega)⟩ (fun v178 h179 n180 c181 => ?_) (fun _ _ _ hx => hx.elim)
          obtain ⟨j182, hj182, c181a, c181b, c181c⟩ := c181
          rw [c181a, c181b, c181c]
          show mT _ _ _ _ 335 [.ref 0, .int x, .int (nI 9), .int (nI r), .int (nI m1), .int (nI X.length), .int m6, .int (nI j11), .double 0] [.int (nI j182), .int (nI X.length), .int (nI 0), .int (nI r), .ref 0] _ _ _ _
          refine mp_isub dL_act_335 (v := (nI X.length) - (nI j182)) rfl ?_
          refine mt_callV (N := mX2_keep) (Rc := rX2_keep) (As := [.int (nI r), .int (nI 0), .int ((nI X.length) - (nI j182))]) (st := []) dL_act_336 ((kX2_keep hl c5c).any oi_keep) sX2_keep mw_401 mKX2 rfl c5c.1 rfl (Nat.le_of_ble_eq_true rfl) ⟨⟨Nat.le_of_ble_eq_true rfl, Nat.le_of_ble_eq_true rfl⟩, (by simp only [rL_pick, rX2_many, rX2_fill, rX2_add, rX2_put, rX2_drop, rX2_exchange, rX2_swap, rX2_turn, rX2_roll, rX2_keep, rX2_copy, rX2_join, rX2_merge, rX2_clear, rX2_sort, rL_act]; omega), (by simp only [rL_pick, rX2_many, rX2_fill, rX2_add, rX2_put, rX2_drop, rX2_exchange, rX2_swap, rX2_turn, rX2_roll, rX2_keep, rX2_copy, rX2_join, rX2_merge, rX2_clear, rX2_sort, rL_act]; omega)⟩ (fun v183 h184 n185 c186 => ?_) (fun E h9 n9 hx => tL_act_x336 c5c (by first | omega | (simp only [rL_pick, rX2_many, rX2_fill, rX2_add, rX2_put, rX2_drop, rX2_exchange, rX2_swap, rX2_turn, rX2_roll, rX2_keep, rX2_copy, rX2_join, rX2_merge, rX2_clear, rX2_sort, rL_act]; omega)) (by first | omega | (simp only [rL_pick, rX2_many, rX2_fill, rX2_add, rX2_put, rX2_drop, rX2_exchange, rX2_swap, rX2_turn, rX2_roll, rX2_keep, rX2_copy, rX2_join, rX2_merge, rX2_clear, rX2_sort, rL_act]; omega)) hx)
          obtain ⟨⟨xc186, c186a⟩, c186b, c186c, c186d⟩ := c186
          rw [c186a, c186b]
          show mT _ _ _ _ 339 [.ref 0, .int x, .int (nI 9), .int (nI r), .int (nI m1), .int (nI X.length), .int m6, .int (nI j11), .double 0] [.int xc186] _ _ _ _
          refine mt_pop dL_act_339 rfl ?_
          refine mt_goto dL_act_340 (tgt := 401) rfl ?_
          refine mt_goto dL_act_401 (tgt := 410) rfl ?_
          refine mt_return dL_act_410 rfl (by simp only [rL_pick, rX2_many, rX2_fill, rX2_add, rX2_put, rX2_drop, rX2_exchange, rX2_swap, rX2_turn, rX2_roll, rX2_keep, rX2_copy, rX2_join, rX2_merge, rX2_clear, rX2_sort, rL_act]; omega) (by simp only [rL_pick, rX2_many, rX2_fill, rX2_add, rX2_put, rX2_drop, rX2_exchange, rX2_swap, rX2_turn, rX2_roll, rX2_keep, rX2_copy, rX2_join, rX2_merge, rX2_clear, rX2_sort, rL_act]; omega) ?_
          exact ⟨rfl, rfl, _, c186c⟩
      · refine mt_tableIn dL_act_72 (off := 271) (by decide +kernel) (by decide +kernel) (by decide +kernel) (tgt := 343) rfl ?_
        refine mt_aload_n dL_act_343 rfl rfl ?_
        refine mt_iload_n dL_act_344 rfl ?_
        refine mt_iload dL_act_345 rfl ?_
        refine mt_callV (N := mX2_copy) (Rc := rX2_copy) (As := [.int (nI r), .int (nI m1)]) (st := []) dL_act_347 ((kX2_copy hl c5c).any oi_copy) sX2_copy mw_405 mKX2 rfl c5c.1 rfl (Nat.le_of_ble_eq_true rfl) ⟨⟨Nat.le_of_ble_eq_true rfl, Nat.le_of_ble_eq_true rfl⟩, (by simp only [rL_pick, rX2_many, rX2_fill, rX2_add, rX2_put, rX2_drop, rX2_exchange, rX2_swap, rX2_turn, rX2_roll, rX2_keep, rX2_copy, rX2_join, rX2_merge, rX2_clear, rX2_sort, rL_act]; omega), (by simp only [rL_pick, rX2_many, rX2_fill, rX2_add, rX2_put, rX2_drop, rX2_exchange, rX2_swap, rX2_turn, rX2_roll, rX2_keep, rX2_copy, rX2_join, rX2_merge, rX2_clear, rX2_sort, rL_act]; omega)⟩ (fun v187 h188 n189 c190 => ?_) (fun E h9 n9 hx => tL_act_x347 c5c (by first | omega | (simp only [rL_pick, rX2_many, rX2_fill, rX2_add, rX2_put, rX2_drop, rX2_exchange, rX2_swap, rX2_turn, rX2_roll, rX2_keep, rX2_copy, rX2_join, rX2_merge, rX2_clear, rX2_sort, rL_act]; omega)) (by first | omega | (simp only [rL_pick, rX2_many, rX2_fill, rX2_add, rX2_put, rX2_drop, rX2_exchange, rX2_swap, rX2_turn, rX2_roll, rX2_keep, rX2_copy, rX2_join, rX2_merge, rX2_clear, rX2_sort, rL_act]; omega)) hx)
        obtain ⟨⟨xc190, c190a⟩, c190b, c190c, c190d⟩ := c190
        rw [c190a, c190b]
        show mT _ _ _ _ 350 [.ref 0, .int x, .int (nI 10), .int (nI r), .int (nI m1), .int (nI X.length), .int m6, .int (nI j11), .double 0] [.int xc190] _ _ _ _
        refine mt_pop dL_act_350 rfl ?_
        refine mt_goto dL_act_351 (tgt := 401) rfl ?_
        refine mt_goto dL_act_401 (tgt := 410) rfl ?_
        refine mt_return dL_act_410 rfl (by simp only [rL_pick, rX2_many, rX2_fill, rX2_add, rX2_put, rX2_drop, rX2_exchange, rX2_swap, rX2_turn, rX2_roll, rX2_keep, rX2_copy, rX2_join, rX2_merge, rX2_clear, rX2_sort, rL_act]; omega) (by simp only [rL_pick, rX2_many, rX2_fill, rX2_add, rX2_put, rX2_drop, rX2_exchange, rX2_swap, rX2_turn, rX2_roll, rX2_keep, rX2_copy, rX2_join, rX2_merge, rX2_clear, rX2_sort, rL_act]; omega) ?_
        exact ⟨rfl, rfl, _, c190c⟩
      · refine mt_tableIn dL_act_72 (off := 282) (by decide +kernel) (by decide +kernel) (by decide +kernel) (tgt := 354) rfl ?_
        refine mt_aload_n dL_act_354 rfl rfl ?_
        refine mt_iload_n dL_act_355 rfl ?_
        refine mt_iload dL_act_356 rfl ?_
        refine mt_callV (N := mX2_join) (Rc := rX2_join) (As := [.int (nI r), .int (nI m1)]) (st := []) dL_act_358 ((kX2_join hl c5c).any oi_join) sX2_join mw_417 mKX2 rfl c5c.1 rfl (Nat.le_of_ble_eq_true rfl) ⟨⟨Nat.le_of_ble_eq_true rfl, Nat.le_of_ble_eq_true rfl⟩, (by simp only [rL_pick, rX2_many, rX2_fill, rX2_add, rX2_put, rX2_drop, rX2_exchange, rX2_swap, rX2_turn, rX2_roll, rX2_keep, rX2_copy, rX2_join, rX2_merge, rX2_clear, rX2_sort, rL_act]; omega), (by simp only [rL_pick, rX2_many, rX2_fill, rX2_add, rX2_put, rX2_drop, rX2_exchange, rX2_swap, rX2_turn, rX2_roll, rX2_keep, rX2_copy, rX2_join, rX2_merge, rX2_clear, rX2_sort, rL_act]; omega)⟩ (fun v191 h192 n193 c194 => ?_) (fun E h9 n9 hx => tL_act_x358 c5c (by first | omega | (simp only [rL_pick, rX2_many, rX2_fill, rX2_add, rX2_put, rX2_drop, rX2_exchange, rX2_swap, rX2_turn, rX2_roll, rX2_keep, rX2_copy, rX2_join, rX2_merge, rX2_clear, rX2_sort, rL_act]; omega)) (by first | omega | (simp only [rL_pick, rX2_many, rX2_fill, rX2_add, rX2_put, rX2_drop, rX2_exchange, rX2_swap, rX2_turn, rX2_roll, rX2_keep, rX2_copy, rX2_join, rX2_merge, rX2_clear, rX2_sort, rL_act]; omega)) hx)
        obtain ⟨⟨xc194, c194a⟩, c194b, c194c, c194d⟩ := c194
        rw [c194a, c194b]
        show mT _ _ _ _ 361 [.ref 0, .int x, .int (nI 11), .int (nI r), .int (nI m1), .int (nI X.length), .int m6, .int (nI j11), .double 0] [.int xc194] _ _ _ _
        refine mt_pop dL_act_361 rfl ?_
        refine mt_goto dL_act_362 (tgt := 401) rfl ?_
        refine mt_goto dL_act_401 (tgt := 410) rfl ?_
        refine mt_return dL_act_410 rfl (by simp only [rL_pick, rX2_many, rX2_fill, rX2_add, rX2_put, rX2_drop, rX2_exchange, rX2_swap, rX2_turn, rX2_roll, rX2_keep, rX2_copy, rX2_join, rX2_merge, rX2_clear, rX2_sort, rL_act]; omega) (by simp only [rL_pick, rX2_many, rX2_fill, rX2_add, rX2_put, rX2_drop, rX2_exchange, rX2_swap, rX2_turn, rX2_roll, rX2_keep, rX2_copy, rX2_join, rX2_merge, rX2_clear, rX2_sort, rL_act]; omega) ?_
        exact ⟨rfl, rfl, _, c194c⟩
      · refine mt_tableIn dL_act_72 (off := 293) (by decide +kernel) (by decide +kernel) (by decide +kernel) (tgt := 365) rfl ?_
        refine mt_aload_n dL_act_365 rfl rfl ?_
        refine mt_iload_n dL_act_366 rfl ?_
        refine mt_iload dL_act_367 rfl ?_
        refine mt_callV (N := mX2_merge) (Rc := rX2_merge) (As := [.int (nI r), .int (nI m1)]) (st := []) dL_act_369 ((kX2_merge hl c5c).any oi_merge) sX2_merge mw_421 mKX2 rfl c5c.1 rfl (Nat.le_of_ble_eq_true rfl) ⟨⟨Nat.le_of_ble_eq_true rfl, Nat.le_of_ble_eq_true rfl⟩, (by simp only [rL_pick, rX2_many, rX2_fill, rX2_add, rX2_put, rX2_drop, rX2_exchange, rX2_swap, rX2_turn, rX2_roll, rX2_keep, rX2_copy, rX2_join, rX2_merge, rX2_clear, rX2_sort, rL_act]; omega), (by simp only [rL_pick, rX2_many, rX2_fill, rX2_add, rX2_put, rX2_drop, rX2_exchange, rX2_swap, rX2_turn, rX2_roll, rX2_keep, rX2_copy, rX2_join, rX2_merge, rX2_clear, rX2_sort, rL_act]; omega)⟩ (fun v195 h196 n197 c198 => ?_) (fun E h9 n9 hx => tL_act_x369 c5c (by first | omega | (simp only [rL_pick, rX2_many, rX2_fill, rX2_add, rX2_put, rX2_drop, rX2_exchange, rX2_swap, rX2_turn, rX2_roll, rX2_keep, rX2_copy, rX2_join, rX2_merge, rX2_clear, rX2_sort, rL_act]; omega)) (by first | omega | (simp only [rL_pick, rX2_many, rX2_fill, rX2_add, rX2_put, rX2_drop, rX2_exchange, rX2_swap, rX2_turn, rX2_roll, rX2_keep, rX2_copy, rX2_join, rX2_merge, rX2_clear, rX2_sort, rL_act]; omega)) hx)
        obtain ⟨⟨xc198, c198a⟩, c198b, c198c, c198d⟩ := c198
        rw [c198a, c198b]
        show mT _ _ _ _ 372 [.ref 0, .int x, .int (nI 12), .int (nI r), .int (nI m1), .int (nI X.length), .int m6, .int (nI j11), .double 0] [.int xc198] _ _ _ _
        refine mt_pop dL_act_372 rfl ?_
        refine mt_goto dL_act_373 (tgt := 401) rfl ?_
        refine mt_goto dL_act_401 (tgt := 410) rfl ?_
        refine mt_return dL_act_410 rfl (by simp only [rL_pick, rX2_many, rX2_fill, rX2_add, rX2_put, rX2_drop, rX2_exchange, rX2_swap, rX2_turn, rX2_roll, rX2_keep, rX2_copy, rX2_join, rX2_merge, rX2_clear, rX2_sort, rL_act]; omega) (by simp only [rL_pick, rX2_many, rX2_fill, rX2_add, rX2_put, rX2_drop, rX2_exchange, rX2_swap, rX2_turn, rX2_roll, rX2_keep, rX2_copy, rX2_join, rX2_merge, rX2_clear, rX2_sort, rL_act]; omega) ?_
        exact ⟨rfl, rfl, _, c198c⟩
      · refine mt_tableOut dL_act_72 (by decide +kernel) (tgt := 376) rfl ?_
        refine mt_iload_n dL_act_376 rfl ?_
        refine mt_bipush dL_act_377 (v := nI 10) (by decide) ?_
        refine mt_iconst dL_act_379 (v := nI 4) rfl ?_
        refine mt_callS (N := mL_pick) (Rc := rL_pick) (As := [.int x, .int (nI 10), .int (nI 4)]) (st := []) dL_act_380 (kL_pick hl (by omega) (by omega)) sL_pick mw_203 rfl (Nat.le_of_ble_eq_true rfl) ⟨⟨Nat.le_of_ble_eq_true rfl, Nat.le_of_ble_eq_true rfl⟩, (by simp only [rL_pick, rX2_many, rX2_fill, rX2_add, rX2_put, rX2_drop, rX2_exchange, rX2_swap, rX2_turn, rX2_roll, rX2_keep, rX2_copy, rX2_join, rX2_merge, rX2_clear, rX2_sort, rL_act]; omega), (by simp only [rL_pick, rX2_many, rX2_fill, rX2_add, rX2_put, rX2_drop, rX2_exchange, rX2_swap, rX2_turn, rX2_roll, rX2_keep, rX2_copy, rX2_join, rX2_merge, rX2_clear, rX2_sort, rL_act]; omega)⟩ (fun v199 h200 n201 c202 => ?_) (fun _ _ _ hx => hx.elim)
        obtain ⟨j203, hj203, c202a, c202b, c202c⟩ := c202
        rw [c202a, c202b, c202c]
        show mT _ _ _ _ 383 [.ref 0, .int x, .int (nI 13), .int (nI r), .int (nI m1), .int (nI X.length), .int m6, .int (nI j11), .double 0] [.int (nI j203)] _ _ _ _
        refine mt_if_ne dL_act_383 (tgt := 395) rfl (fun q204 => ?_) (fun q204 => ?_)
        · have q204 := (not_congr (mI_eq0 (by omega))).mp q204
          refine mt_aload_n dL_act_395 rfl rfl ?_
          refine mt_iload_n dL_act_396 rfl ?_
          refine mt_callV (N := mX2_sort) (Rc := rX2_sort) (As := [.int (nI r)]) (st := []) dL_act_397 ((kX2_sort hl c5c).any oi_sort) sX2_sort mw_429 mKX2 rfl c5c.1 rfl (Nat.le_of_ble_eq_true rfl) ⟨⟨Nat.le_of_ble_eq_true rfl, Nat.le_of_ble_eq_true rfl⟩, (by simp only [rL_pick, rX2_many, rX2_fill, rX2_add, rX2_put, rX2_drop, rX2_exchange, rX2_swap, rX2_turn, rX2_roll, rX2_keep, rX2_copy, rX2_join, rX2_merge, rX2_clear, rX2_sort, rL_act]; omega), (by simp only [rL_pick, rX2_many, rX2_fill, rX2_add, rX2_put, rX2_drop, rX2_exchange, rX2_swap, rX2_turn, rX2_roll, rX2_keep, rX2_copy, rX2_join, rX2_merge, rX2_clear, rX2_sort, rL_act]; omega)⟩ (fun v205 h206 n207 c208 => ?_) (fun E h9 n9 hx => tL_act_x397 c5c (by first | omega | (simp only [rL_pick, rX2_many, rX2_fill, rX2_add, rX2_put, rX2_drop, rX2_exchange, rX2_swap, rX2_turn, rX2_roll, rX2_keep, rX2_copy, rX2_join, rX2_merge, rX2_clear, rX2_sort, rL_act]; omega)) (by first | omega | (simp only [rL_pick, rX2_many, rX2_fill, rX2_add, rX2_put, rX2_drop, rX2_exchange, rX2_swap, rX2_turn, rX2_roll, rX2_keep, rX2_copy, rX2_join, rX2_merge, rX2_clear, rX2_sort, rL_act]; omega)) hx)
          obtain ⟨⟨xc208, c208a⟩, c208b, c208c, c208d⟩ := c208
          rw [c208a, c208b]
          show mT _ _ _ _ 400 [.ref 0, .int x, .int (nI 13), .int (nI r), .int (nI m1), .int (nI X.length), .int m6, .int (nI j11), .double 0] [.int xc208] _ _ _ _
          refine mt_pop dL_act_400 rfl ?_
          refine mt_goto dL_act_401 (tgt := 410) rfl ?_
          refine mt_return dL_act_410 rfl (by simp only [rL_pick, rX2_many, rX2_fill, rX2_add, rX2_put, rX2_drop, rX2_exchange, rX2_swap, rX2_turn, rX2_roll, rX2_keep, rX2_copy, rX2_join, rX2_merge, rX2_clear, rX2_sort, rL_act]; omega) (by simp only [rL_pick, rX2_many, rX2_fill, rX2_add, rX2_put, rX2_drop, rX2_exchange, rX2_swap, rX2_turn, rX2_roll, rX2_keep, rX2_copy, rX2_join, rX2_merge, rX2_clear, rX2_sort, rL_act]; omega) ?_
          exact ⟨rfl, rfl, _, c208c⟩
        · have q204 := (mI_eq0 (by omega)).mp q204
          refine mt_aload_n dL_act_386 rfl rfl ?_
          refine mt_iload_n dL_act_387 rfl ?_
          refine mt_callV (N := mX2_clear) (Rc := rX2_clear) (As := [.int (nI r)]) (st := []) dL_act_388 ((kX2_clear hl c5c).any oi_clear) sX2_clear mw_425 mKX2 rfl c5c.1 rfl (Nat.le_of_ble_eq_true rfl) ⟨⟨Nat.le_of_ble_eq_true rfl, Nat.le_of_ble_eq_true rfl⟩, (by simp only [rL_pick, rX2_many, rX2_fill, rX2_add, rX2_put, rX2_drop, rX2_exchange, rX2_swap, rX2_turn, rX2_roll, rX2_keep, rX2_copy, rX2_join, rX2_merge, rX2_clear, rX2_sort, rL_act]; omega), (by simp only [rL_pick, rX2_many, rX2_fill, rX2_add, rX2_put, rX2_drop, rX2_exchange, rX2_swap, rX2_turn, rX2_roll, rX2_keep, rX2_copy, rX2_join, rX2_merge, rX2_clear, rX2_sort, rL_act]; omega)⟩ (fun v209 h210 n211 c212 => ?_) (fun E h9 n9 hx => tL_act_x388 c5c (by first | omega | (simp only [rL_pick, rX2_many, rX2_fill, rX2_add, rX2_put, rX2_drop, rX2_exchange, rX2_swap, rX2_turn, rX2_roll, rX2_keep, rX2_copy, rX2_join, rX2_merge, rX2_clear, rX2_sort, rL_act]; omega)) (by first | omega | (simp only [rL_pick, rX2_many, rX2_fill, rX2_add, rX2_put, rX2_drop, rX2_exchange, rX2_swap, rX2_turn, rX2_roll, rX2_keep, rX2_copy, rX2_join, rX2_merge, rX2_clear, rX2_sort, rL_act]; omega)) hx)
          obtain ⟨⟨xc212, c212a⟩, c212b, c212c, c212d⟩ := c212
          rw [c212a, c212b]
          show mT _ _ _ _ 391 [.ref 0, .int x, .int (nI 13), .int (nI r), .int (nI m1), .int (nI X.length), .int m6, .int (nI j11), .double 0] [.int xc212] _ _ _ _
          refine mt_pop dL_act_391 rfl ?_
          refine mt_goto dL_act_392 (tgt := 401) rfl ?_
          refine mt_goto dL_act_401 (tgt := 410) rfl ?_
          refine mt_return dL_act_410 rfl (by simp only [rL_pick, rX2_many, rX2_fill, rX2_add, rX2_put, rX2_drop, rX2_exchange, rX2_swap, rX2_turn, rX2_roll, rX2_keep, rX2_copy, rX2_join, rX2_merge, rX2_clear, rX2_sort, rL_act]; omega) (by simp only [rL_pick, rX2_many, rX2_fill, rX2_add, rX2_put, rX2_drop, rX2_exchange, rX2_swap, rX2_turn, rX2_roll, rX2_keep, rX2_copy, rX2_join, rX2_merge, rX2_clear, rX2_sort, rL_act]; omega) ?_
          exact ⟨rfl, rfl, _, c212c⟩
    · refine mt_iload_n dL_act_30 rfl ?_
      refine mt_bipush dL_act_31 (v := nI 7) (by decide) ?_
      refine mt_iload dL_act_33 rfl ?_
      refine mt_iconst dL_act_35 (v := nI 2) rfl ?_
      refine mp_iadd dL_act_36 (v := nI (X.length + 2)) (nI_add _ _) ?_
      refine mt_callS (N := mL_pick) (Rc := rL_pick) (As := [.int x, .int (nI 7), .int (nI (X.length + 2))]) (st := []) dL_act_37 (kL_pick hl (by omega) (by omega)) sL_pick mw_203 rfl (Nat.le_of_ble_eq_true rfl) ⟨⟨Nat.le_of_ble_eq_true rfl, Nat.le_of_ble_eq_true rfl⟩, (by simp only [rL_pick, rX2_many, rX2_fill, rX2_add, rX2_put, rX2_drop, rX2_exchange, rX2_swap, rX2_turn, rX2_roll, rX2_keep, rX2_copy, rX2_join, rX2_merge, rX2_clear, rX2_sort, rL_act]; omega), (by simp only [rL_pick, rX2_many, rX2_fill, rX2_add, rX2_put, rX2_drop, rX2_exchange, rX2_swap, rX2_turn, rX2_roll, rX2_keep, rX2_copy, rX2_join, rX2_merge, rX2_clear, rX2_sort, rL_act]; omega)⟩ (fun v213 h214 n215 c216 => ?_) (fun _ _ _ hx => hx.elim)
      obtain ⟨j217, hj217, c216a, c216b, c216c⟩ := c216
      rw [c216a, c216b, c216c]
      show mT _ _ _ _ 40 [.ref 0, .int x, .int (nI kd), .int (nI r), .int (nI m1), .int (nI X.length), .double 0, .double 0, .double 0] [.int (nI j217)] _ _ _ _
      refine mt_iload_n dL_act_40 rfl ?_
      refine mt_bipush dL_act_41 (v := nI 8) (by decide) ?_
      refine mt_bipush dL_act_43 (v := nI 9) (by decide) ?_
      refine mt_callS (N := mL_pick) (Rc := rL_pick) (As := [.int x, .int (nI 8), .int (nI 9)]) (st := [.int (nI j217)]) dL_act_45 (kL_pick hl (by omega) (by omega)) sL_pick mw_203 rfl (Nat.le_of_ble_eq_true rfl) ⟨⟨Nat.le_of_ble_eq_true rfl, Nat.le_of_ble_eq_true rfl⟩, (by simp only [rL_pick, rX2_many, rX2_fill, rX2_add, rX2_put, rX2_drop, rX2_exchange, rX2_swap, rX2_turn, rX2_roll, rX2_keep, rX2_copy, rX2_join, rX2_merge, rX2_clear, rX2_sort, rL_act]; omega), (by simp only [rL_pick, rX2_many, rX2_fill, rX2_add, rX2_put, rX2_drop, rX2_exchange, rX2_swap, rX2_turn, rX2_roll, rX2_keep, rX2_copy, rX2_join, rX2_merge, rX2_clear, rX2_sort, rL_act]; omega)⟩ (fun v218 h219 n220 c221 => ?_) (fun _ _ _ hx => hx.elim)
      obtain ⟨j222, hj222, c221a, c221b, c221c⟩ := c221
      rw [c221a, c221b, c221c]
      show mT _ _ _ _ 48 [.ref 0, .int x, .int (nI kd), .int (nI r), .int (nI m1), .int (nI X.length), .double 0, .double 0, .double 0] [.int (nI j222), .int (nI j217)] _ _ _ _
      refine mt_if_ne dL_act_48 (tgt := 55) rfl (fun q223 => ?_) (fun q223 => ?_)
      · have q223 := (not_congr (mI_eq0 (by omega))).mp q223
        refine mt_iconst dL_act_55 (v := nI 0) rfl ?_
        refine mp_isub dL_act_56 (v := (nI j217) - (nI 0)) rfl ?_
        exact mt_widen (by first | omega | (simp only [rL_pick, rX2_many, rX2_fill, rX2_add, rX2_put, rX2_drop, rX2_exchange, rX2_swap, rX2_turn, rX2_roll, rX2_keep, rX2_copy, rX2_join, rX2_merge, rX2_clear, rX2_sort, rL_act]; omega)) (by first | omega | (simp only [rL_pick, rX2_many, rX2_fill, rX2_add, rX2_put, rX2_drop, rX2_exchange, rX2_swap, rX2_turn, rX2_roll, rX2_keep, rX2_copy, rX2_join, rX2_merge, rX2_clear, rX2_sort, rL_act]; omega)) (kk6 ((nI j217) - (nI 0)) trivial)
      · have q223 := (mI_eq0 (by omega)).mp q223
        refine mt_iconst dL_act_51 (v := nI 1) rfl ?_
        refine mt_goto dL_act_52 (tgt := 56) rfl ?_
        refine mp_isub dL_act_56 (v := (nI j217) - (nI 1)) rfl ?_
        exact mt_widen (by first | omega | (simp only [rL_pick, rX2_many, rX2_fill, rX2_add, rX2_put, rX2_drop, rX2_exchange, rX2_swap, rX2_turn, rX2_roll, rX2_keep, rX2_copy, rX2_join, rX2_merge, rX2_clear, rX2_sort, rL_act]; omega)) (by first | omega | (simp only [rL_pick, rX2_many, rX2_fill, rX2_add, rX2_put, rX2_drop, rX2_exchange, rX2_swap, rX2_turn, rX2_roll, rX2_keep, rX2_copy, rX2_join, rX2_merge, rX2_clear, rX2_sort, rL_act]; omega)) (kk6 ((nI j217) - (nI 1)) trivial)
  · refine mt_iload_n dL_act_0 rfl ?_
    refine mt_iconst dL_act_1 (v := nI 5) rfl ?_
    refine mt_bipush dL_act_2 (v := nI 20) (by decide) ?_
    refine mt_callS (N := mL_pick) (Rc := rL_pick) (As := [.int x, .int (nI 5), .int (nI 20)]) (st := []) dL_act_4 (kL_pick hl (by omega) (by omega)) sL_pick mw_203 rfl (Nat.le_of_ble_eq_true rfl) ⟨⟨Nat.le_of_ble_eq_true rfl, Nat.le_of_ble_eq_true rfl⟩, (by simp only [rL_pick, rX2_many, rX2_fill, rX2_add, rX2_put, rX2_drop, rX2_exchange, rX2_swap, rX2_turn, rX2_roll, rX2_keep, rX2_copy, rX2_join, rX2_merge, rX2_clear, rX2_sort, rL_act]; omega), (by simp only [rL_pick, rX2_many, rX2_fill, rX2_add, rX2_put, rX2_drop, rX2_exchange, rX2_swap, rX2_turn, rX2_roll, rX2_keep, rX2_copy, rX2_join, rX2_merge, rX2_clear, rX2_sort, rL_act]; omega)⟩ (fun v224 h225 n226 c227 => ?_) (fun _ _ _ hx => hx.elim)
    obtain ⟨j228, hj228, c227a, c227b, c227c⟩ := c227
    rw [c227a, c227b, c227c]
    show mT _ _ _ _ 7 [.ref 0, .int x, .int (nI kd), .int (nI r), .double 0, .double 0, .double 0, .double 0, .double 0] [.int (nI j228)] _ _ _ _
    refine mt_if_ne dL_act_7 (tgt := 14) rfl (fun q229 => ?_) (fun q229 => ?_)
    · have q229 := (not_congr (mI_eq0 (by omega))).mp q229
      refine mt_iload_n dL_act_14 rfl ?_
      refine mt_bipush dL_act_15 (v := nI 6) (by decide) ?_
      refine mt_iconst dL_act_17 (v := nI 4) rfl ?_
      refine mt_callS (N := mL_pick) (Rc := rL_pick) (As := [.int x, .int (nI 6), .int (nI 4)]) (st := []) dL_act_18 (kL_pick hl (by omega) (by omega)) sL_pick mw_203 rfl (Nat.le_of_ble_eq_true rfl) ⟨⟨Nat.le_of_ble_eq_true rfl, Nat.le_of_ble_eq_true rfl⟩, (by simp only [rL_pick, rX2_many, rX2_fill, rX2_add, rX2_put, rX2_drop, rX2_exchange, rX2_swap, rX2_turn, rX2_roll, rX2_keep, rX2_copy, rX2_join, rX2_merge, rX2_clear, rX2_sort, rL_act]; omega), (by simp only [rL_pick, rX2_many, rX2_fill, rX2_add, rX2_put, rX2_drop, rX2_exchange, rX2_swap, rX2_turn, rX2_roll, rX2_keep, rX2_copy, rX2_join, rX2_merge, rX2_clear, rX2_sort, rL_act]; omega)⟩ (fun v230 h231 n232 c233 => ?_) (fun _ _ _ hx => hx.elim)
      obtain ⟨j234, hj234, c233a, c233b, c233c⟩ := c233
      rw [c233a, c233b, c233c]
      show mT _ _ _ _ 21 [.ref 0, .int x, .int (nI kd), .int (nI r), .double 0, .double 0, .double 0, .double 0, .double 0] [.int (nI j234)] _ _ _ _
      exact mt_widen (by first | omega | (simp only [rL_pick, rX2_many, rX2_fill, rX2_add, rX2_put, rX2_drop, rX2_exchange, rX2_swap, rX2_turn, rX2_roll, rX2_keep, rX2_copy, rX2_join, rX2_merge, rX2_clear, rX2_sort, rL_act]; omega)) (by first | omega | (simp only [rL_pick, rX2_many, rX2_fill, rX2_add, rX2_put, rX2_drop, rX2_exchange, rX2_swap, rX2_turn, rX2_roll, rX2_keep, rX2_copy, rX2_join, rX2_merge, rX2_clear, rX2_sort, rL_act]; omega)) (kk1 j234 (by omega))
    · have q229 := (mI_eq0 (by omega)).mp q229
      refine mt_iconst dL_act_10 (v := nI 4) rfl ?_
      refine mt_goto dL_act_11 (tgt := 21) rfl ?_
      exact mt_widen (by first | omega | (simp only [rL_pick, rX2_many, rX2_fill, rX2_add, rX2_put, rX2_drop, rX2_exchange, rX2_swap, rX2_turn, rX2_roll, rX2_keep, rX2_copy, rX2_join, rX2_merge, rX2_clear, rX2_sort, rL_act]; omega)) (by first | omega | (simp only [rL_pick, rX2_many, rX2_fill, rX2_add, rX2_put, rX2_drop, rX2_exchange, rX2_swap, rX2_turn, rX2_roll, rX2_keep, rX2_copy, rX2_join, rX2_merge, rX2_clear, rX2_sort, rL_act]; omega)) (kk1 4 (by omega))
