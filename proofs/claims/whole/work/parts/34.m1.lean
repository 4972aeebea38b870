def X8_step (σ : am_M) (a1 : Int32) : Option (Int32 × am_M) := if (X8_isStep (sC σ 0 (am_u (σ 0) 2 0)) a1) = true then (if a1 < 0 ∨ 80 ≤ a1.toNatClampNeg then none else (some ((σ 6 a1.toNatClampNeg), sC σ 0 (am_u (σ 0) 2 0)))) else (X8_fail (sC σ 0 (am_u (σ 0) 2 0)) 1).bind (fun q3 => some (q3.1, q3.2))
set_option maxRecDepth 100000 in
set_option maxHeartbeats 4000000 in
theorem c_X8_step (l : Launch) (σ : am_M) (a1 : Int32) (res : (Int32 × am_M)) (h : X8_step σ a1 = some res) : am_Con l yX8_step cX8_step 2 (some .int) 3 [.ref 0, .int a1] (wX8 σ) (fun (r : Option Value) (w : am_W) => r = (some (.int res.1)) ∧ w = (wX8 res.2)) := by
  refine am_metn (n0 := 36) (own := RX8) (cd := am_cdT' tX8_step) (rf := am_rfL rfX8) (ini := false) rfl (by decide +kernel) rfl (by decide) dX8_step rfX8_ok (Nat.le_of_ble_eq_true rfl) ?_
  intro V hV
  have hP : (fun (r : Option Value) (w : am_W) => r = (some (.int res.1)) ∧ w = (wX8 res.2)) (some (.int res.1)) (wX8 res.2) := ⟨rfl, rfl⟩
  show V (wX8 σ) 0 [(0, .ref 0), (1, .int a1)] []
  unfold X8_step at h
  refine hV.run 5 [] (ws' := wX8 (sC σ 0 (am_u (σ 0) 2 0))) (pc' := 7) (ls' := [(0, .ref 0), (1, .int a1)]) (st' := [.int a1, .ref 0]) (ps := []) rfl trivial ?_
  refine hV.cOi (as := [.int a1]) (rest := []) (st := [.int a1, .ref 0]) (ws2 := wX8 (sC σ 0 (am_u (σ 0) 2 0))) (pc2 := 10) kX8_334 (c_X8_isStep l (sC σ 0 (am_u (σ 0) 2 0)) a1) rfl rfl rfl rfl rfl rfl rfl rfl rfl ?_
  by_cases c1 : (X8_isStep (sC σ 0 (am_u (σ 0) 2 0)) a1) = true
  · rw [if_pos c1] at h
    by_cases g2 : a1 < 0 ∨ 80 ≤ a1.toNatClampNeg
    · rw [if_pos g2] at h; cases h
    rw [if_neg g2] at h
    refine hV.run 6 [0] (ws' := wX8 (sC σ 0 (am_u (σ 0) 2 0))) (pc' := 27) (ls' := [(0, .ref 0), (1, .int a1)]) (st' := [.int (σ 6 a1.toNatClampNeg)]) (ps := [¬ (b2i (X8_isStep (sC σ 0 (am_u (σ 0) 2 0)) a1)) = 0, vp_in a1 80]) rfl ⟨(b2i_t c1), g2, trivial⟩ ?_
    cases h
    exact hV.ri rfl rfl rfl hP
  · rw [if_neg c1] at h
    refine hV.run 3 [1] (ws' := wX8 (sC σ 0 (am_u (σ 0) 2 0))) (pc' := 24) (ls' := [(0, .ref 0), (1, .int a1)]) (st' := [.int 1, .ref 0]) (ps := [(b2i (X8_isStep (sC σ 0 (am_u (σ 0) 2 0)) a1)) = 0]) rfl ⟨(b2i_f c1), trivial⟩ ?_
    obtain ⟨q3, hq3, h⟩ := am_bind h
    refine hV.cOi (as := [.int 1]) (rest := []) (st := [.int 1, .ref 0]) (ws2 := wX8 q3.2) (pc2 := 27) kX8_313 (c_X8_fail l (sC σ 0 (am_u (σ 0) 2 0)) 1 q3 hq3) rfl rfl rfl rfl rfl rfl rfl rfl rfl ?_
    cases h
    exact hV.ri rfl rfl rfl hP

