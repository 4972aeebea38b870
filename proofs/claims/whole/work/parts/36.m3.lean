def X8_left_J24 (σ : am_M) : Option (Bool × am_M) := (X8_refuse σ 1).bind (fun q1 => some (q1.1, q1.2))
set_option maxRecDepth 100000 in
set_option maxHeartbeats 4000000 in
theorem p_X8_left_J24 {l : Launch} {Post : Option Value → am_W → Prop} {V : am_VT} (hV : am_B l RX8 false 3 (am_cdT' tX8_left) (am_rfL rfX8) (some .boolean) Post 36 V) (res : (Bool × am_M)) (hP : Post (some (.int (b2i res.1))) (wX8 res.2)) (σ : am_M) (h : X8_left_J24 σ = some res) : V (wX8 σ) 24 [(0, .ref 0)] [] := by
  unfold X8_left_J24 at h
  refine hV.run 2 [] (ws' := wX8 σ) (pc' := 26) (ls' := [(0, .ref 0)]) (st' := [.int 1, .ref 0]) (ps := []) rfl trivial ?_
  obtain ⟨q1, hq1, h⟩ := am_bind h
  refine hV.cOi (as := [.int 1]) (rest := []) (st := [.int 1, .ref 0]) (ws2 := wX8 q1.2) (pc2 := 29) kX8_491 (c_X8_refuse l σ 1 q1 hq1) rfl rfl rfl rfl rfl rfl rfl rfl rfl ?_
  cases h
  exact hV.rz rfl rfl rfl (b2i_01 _) hP
def X8_left (σ : am_M) (a1 : Int32) : Option (Bool × am_M) := if (X8_isStep (sC σ 0 (am_u (σ 0) 2 0)) a1) = true then (if (σ 0 56) = (σ 0 8) then (if a1 < 0 ∨ 40 ≤ a1.toNatClampNeg then none else (if (σ 27 a1.toNatClampNeg) = 0 then (some (false, sC σ 0 (am_u (σ 0) 2 0))) else (if (σ 27 a1.toNatClampNeg) = 1 then (some (true, sC σ 0 (am_u (σ 0) 2 0))) else none))) else (X8_left_J24 (sC σ 0 (am_u (σ 0) 2 0)))) else (X8_left_J24 (sC σ 0 (am_u (σ 0) 2 0)))
set_option maxRecDepth 100000 in
set_option maxHeartbeats 4000000 in
theorem c_X8_left (l : Launch) (σ : am_M) (a1 : Int32) (res : (Bool × am_M)) (h : X8_left σ a1 = some res) : am_Con l yX8_left cX8_left 2 (some .boolean) 3 [.ref 0, .int a1] (wX8 σ) (fun (r : Option Value) (w : am_W) => r = (some (.int (b2i res.1))) ∧ w = (wX8 res.2)) := by
  refine am_metn (n0 := 36) (own := RX8) (cd := am_cdT' tX8_left) (rf := am_rfL rfX8) (ini := false) rfl (by decide +kernel) rfl (by decide) dX8_left rfX8_ok (Nat.le_of_ble_eq_true rfl) ?_
  intro V hV
  have hP : (fun (r : Option Value) (w : am_W) => r = (some (.int (b2i res.1))) ∧ w = (wX8 res.2)) (some (.int (b2i res.1))) (wX8 res.2) := ⟨rfl, rfl⟩
  show V (wX8 σ) 0 [(0, .ref 0), (1, .int a1)] []
  unfold X8_left at h
  refine hV.run 5 [] (ws' := wX8 (sC σ 0 (am_u (σ 0) 2 0))) (pc' := 7) (ls' := [(0, .ref 0), (1, .int a1)]) (st' := [.int a1, .ref 0]) (ps := []) rfl trivial ?_
  refine hV.cOi (as := [.int a1]) (rest := []) (st := [.int a1, .ref 0]) (ws2 := wX8 (sC σ 0 (am_u (σ 0) 2 0))) (pc2 := 10) kX8_334 (c_X8_isStep l (sC σ 0 (am_u (σ 0) 2 0)) a1) rfl rfl rfl rfl rfl rfl rfl rfl rfl ?_
  by_cases c1 : (X8_isStep (sC σ 0 (am_u (σ 0) 2 0)) a1) = true
  · rw [if_pos c1] at h
    by_cases c2 : (σ 0 56) = (σ 0 8)
    · rw [if_pos c2] at h
      by_cases g3 : a1 < 0 ∨ 40 ≤ a1.toNatClampNeg
      · rw [if_pos g3] at h; cases h
      rw [if_neg g3] at h
      refine hV.run 10 [0, 1] (ws' := wX8 (sC σ 0 (am_u (σ 0) 2 0))) (pc' := 36) (ls' := [(0, .ref 0), (1, .int a1)]) (st' := [.int (σ 27 a1.toNatClampNeg)]) (ps := [¬ (b2i (X8_isStep (sC σ 0 (am_u (σ 0) 2 0)) a1)) = 0, (σ 0 56) = (σ 0 8), vp_in a1 40]) rfl ⟨(b2i_t c1), c2, g3, trivial⟩ ?_
      by_cases c4 : (σ 27 a1.toNatClampNeg) = 0
      · rw [if_pos c4] at h
        rw [c4]
        cases h
        exact hV.rz rfl rfl rfl (Or.inl rfl) hP
      · rw [if_neg c4] at h
        by_cases c5 : (σ 27 a1.toNatClampNeg) = 1
        · rw [if_pos c5] at h
          rw [c5]
          cases h
          exact hV.rz rfl rfl rfl (Or.inr rfl) hP
        · rw [if_neg c5] at h; cases h
    · rw [if_neg c2] at h
      refine hV.run 6 [0, 0] (ws' := wX8 (sC σ 0 (am_u (σ 0) 2 0))) (pc' := 24) (ls' := [(0, .ref 0), (1, .int a1)]) (st' := []) (ps := [¬ (b2i (X8_isStep (sC σ 0 (am_u (σ 0) 2 0)) a1)) = 0, ¬ (σ 0 56) = (σ 0 8)]) rfl ⟨(b2i_t c1), c2, trivial⟩ ?_
      refine hV.pick [0] (ls' := [(0, .ref 0)]) rfl ?_
      exact p_X8_left_J24 hV res hP (sC σ 0 (am_u (σ 0) 2 0)) h
  · rw [if_neg c1] at h
    refine hV.run 1 [1] (ws' := wX8 (sC σ 0 (am_u (σ 0) 2 0))) (pc' := 24) (ls' := [(0, .ref 0), (1, .int a1)]) (st' := []) (ps := [(b2i (X8_isStep (sC σ 0 (am_u (σ 0) 2 0)) a1)) = 0]) rfl ⟨(b2i_f c1), trivial⟩ ?_
    refine hV.pick [0] (ls' := [(0, .ref 0)]) rfl ?_
    exact p_X8_left_J24 hV res hP (sC σ 0 (am_u (σ 0) 2 0)) h

