def X8_own (σ : am_M) (a1 : Int32) (a2 : Int32) : Option Int32 := if ((8 * a1) + a2) < 0 ∨ 1985 ≤ ((8 * a1) + a2).toNatClampNeg then none else (some (σ 15 ((8 * a1) + a2).toNatClampNeg))
set_option maxRecDepth 100000 in
set_option maxHeartbeats 4000000 in
theorem c_X8_own (l : Launch) (σ : am_M) (a1 : Int32) (a2 : Int32) (res : Int32) (h : X8_own σ a1 a2 = some res) : am_Con l yX8_own cX8_own 3 (some .int) 1 [.ref 0, .int a1, .int a2] (wX8 σ) (fun (r : Option Value) (w : am_W) => r = (some (.int res)) ∧ w = (wX8 σ)) := by
  refine am_metn (n0 := 36) (own := RX8) (cd := am_cdT' tX8_own) (rf := am_rfL rfX8) (ini := false) rfl (by decide +kernel) rfl (by decide) dX8_own rfX8_ok (Nat.le_of_ble_eq_true rfl) ?_
  intro V hV
  have hP : (fun (r : Option Value) (w : am_W) => r = (some (.int res)) ∧ w = (wX8 σ)) (some (.int res)) (wX8 σ) := ⟨rfl, rfl⟩
  show V (wX8 σ) 0 [(0, .ref 0), (1, .int a1), (2, .int a2)] []
  unfold X8_own at h
  by_cases g1 : ((8 * a1) + a2) < 0 ∨ 1985 ≤ ((8 * a1) + a2).toNatClampNeg
  · rw [if_pos g1] at h; cases h
  rw [if_neg g1] at h
  refine hV.run 8 [] (ws' := wX8 σ) (pc' := 11) (ls' := [(0, .ref 0), (1, .int a1), (2, .int a2)]) (st' := [.int (σ 15 ((8 * a1) + a2).toNatClampNeg)]) (ps := [vp_in ((8 * a1) + a2) 1985]) rfl ⟨g1, trivial⟩ ?_
  cases h
  exact hV.ri rfl rfl rfl hP

def X8_put (σ : am_M) (a1 : Int32) (a2 : Int32) (a3 : Int32) : Option am_M := if ((8 * a1) + a2) < 0 ∨ 1985 ≤ ((8 * a1) + a2).toNatClampNeg then none else (some (sC σ 15 (upd (σ 15) ((8 * a1) + a2).toNatClampNeg a3)))
set_option maxRecDepth 100000 in
set_option maxHeartbeats 4000000 in
theorem c_X8_put (l : Launch) (σ : am_M) (a1 : Int32) (a2 : Int32) (a3 : Int32) (res : am_M) (h : X8_put σ a1 a2 a3 = some res) : am_Con l yX8_put cX8_put 4 none 1 [.ref 0, .int a1, .int a2, .int a3] (wX8 σ) (fun (r : Option Value) (w : am_W) => r = none ∧ w = (wX8 res)) := by
  refine am_metn (n0 := 36) (own := RX8) (cd := am_cdT' tX8_put) (rf := am_rfL rfX8) (ini := false) rfl (by decide +kernel) rfl (by decide) dX8_put rfX8_ok (Nat.le_of_ble_eq_true rfl) ?_
  intro V hV
  have hP : (fun (r : Option Value) (w : am_W) => r = none ∧ w = (wX8 res)) none (wX8 res) := ⟨rfl, rfl⟩
  show V (wX8 σ) 0 [(0, .ref 0), (1, .int a1), (2, .int a2), (3, .int a3)] []
  unfold X8_put at h
  by_cases g1 : ((8 * a1) + a2) < 0 ∨ 1985 ≤ ((8 * a1) + a2).toNatClampNeg
  · rw [if_pos g1] at h; cases h
  rw [if_neg g1] at h
  refine hV.run 9 [] (ws' := wX8 (sC σ 15 (upd (σ 15) ((8 * a1) + a2).toNatClampNeg a3))) (pc' := 12) (ls' := [(0, .ref 0), (1, .int a1), (2, .int a2), (3, .int a3)]) (st' := []) (ps := [vp_in ((8 * a1) + a2) 1985]) rfl ⟨g1, trivial⟩ ?_
  cases h
  exact hV.rv rfl rfl rfl hP

def X8_wordAt (a1 : Int32) : Int32 := (65 + (6 * a1))
set_option maxRecDepth 100000 in
set_option maxHeartbeats 4000000 in
theorem c_X8_wordAt (l : Launch) (a1 : Int32) : am_Con l yX8_wordAt cX8_wordAt 1 (some .int) 1 [.int a1] [] (fun (r : Option Value) (w : am_W) => r = (some (.int (X8_wordAt a1))) ∧ w = []) := by
  obtain ⟨res, h⟩ : ∃ res, (X8_wordAt a1) = res := ⟨_, rfl⟩
  rw [h]
  refine am_metn (n0 := 0) (own := RX8) (cd := am_cdT' tX8_wordAt) (rf := am_rfL rfX8) (ini := false) rfl (by decide +kernel) rfl (by decide) dX8_wordAt rfX8_ok (Nat.le_of_ble_eq_true rfl) ?_
  intro V hV
  have hP : (fun (r : Option Value) (w : am_W) => r = (some (.int res)) ∧ w = []) (some (.int res)) [] := ⟨rfl, rfl⟩
  show V [] 0 [(0, .int a1)] []
  unfold X8_wordAt at h
  refine hV.run 5 [] (ws' := []) (pc' := 7) (ls' := [(0, .int a1)]) (st' := [.int (65 + (6 * a1))]) (ps := []) rfl trivial ?_
  subst h
  exact hV.ri rfl rfl rfl hP

def X8_words (σ : am_M) : Int32 := (σ 15 (64 : Int32).toNatClampNeg)
set_option maxRecDepth 100000 in
set_option maxHeartbeats 4000000 in
theorem c_X8_words (l : Launch) (σ : am_M) : am_Con l yX8_words cX8_words 1 (some .int) 1 [.ref 0] (wX8 σ) (fun (r : Option Value) (w : am_W) => r = (some (.int (X8_words σ))) ∧ w = (wX8 σ)) := by
  obtain ⟨res, h⟩ : ∃ res, (X8_words σ) = res := ⟨_, rfl⟩
  rw [h]
  refine am_metn (n0 := 36) (own := RX8) (cd := am_cdT' tX8_words) (rf := am_rfL rfX8) (ini := false) rfl (by decide +kernel) rfl (by decide) dX8_words rfX8_ok (Nat.le_of_ble_eq_true rfl) ?_
  intro V hV
  have hP : (fun (r : Option Value) (w : am_W) => r = (some (.int res)) ∧ w = (wX8 σ)) (some (.int res)) (wX8 σ) := ⟨rfl, rfl⟩
  show V (wX8 σ) 0 [(0, .ref 0)] []
  unfold X8_words at h
  refine hV.run 4 [] (ws' := wX8 σ) (pc' := 7) (ls' := [(0, .ref 0)]) (st' := [.int (σ 15 (64 : Int32).toNatClampNeg)]) (ps := [vp_in (64 : Int32) 1985]) rfl ⟨(am_inc (by decide)), trivial⟩ ?_
  subst h
  exact hV.ri rfl rfl rfl hP

def X8_valueOf (σ : am_M) (a1 : Int32) (a2 : Int32) : Option Int32 := if 4 ≤ a2 then (if a2 = 4 then (some a1) else (if a2 = 5 then (some (σ 0 3)) else (X8_own σ a1 6).bind (fun q4 => some q4))) else (X8_own σ a1 (2 + a2)).bind (fun q5 => some q5)
set_option maxRecDepth 100000 in
set_option maxHeartbeats 4000000 in
theorem c_X8_valueOf (l : Launch) (σ : am_M) (a1 : Int32) (a2 : Int32) (res : Int32) (h : X8_valueOf σ a1 a2 = some res) : am_Con l yX8_valueOf cX8_valueOf 3 (some .int) 2 [.ref 0, .int a1, .int a2] (wX8 σ) (fun (r : Option Value) (w : am_W) => r = (some (.int res)) ∧ w = (wX8 σ)) := by
  refine am_metn (n0 := 36) (own := RX8) (cd := am_cdT' tX8_valueOf) (rf := am_rfL rfX8) (ini := false) rfl (by decide +kernel) rfl (by decide) dX8_valueOf rfX8_ok (Nat.le_of_ble_eq_true rfl) ?_
  intro V hV
  have hP : (fun (r : Option Value) (w : am_W) => r = (some (.int res)) ∧ w = (wX8 σ)) (some (.int res)) (wX8 σ) := ⟨rfl, rfl⟩
  show V (wX8 σ) 0 [(0, .ref 0), (1, .int a1), (2, .int a2)] []
  unfold X8_valueOf at h
  by_cases c1 : 4 ≤ a2
  · rw [if_pos c1] at h
    by_cases c2 : a2 = 4
    · rw [if_pos c2] at h
      refine hV.run 8 [1, 0] (ws' := wX8 σ) (pc' := 44) (ls' := [(0, .ref 0), (1, .int a1), (2, .int a2)]) (st' := [.int a1]) (ps := [4 ≤ a2, a2 = 4]) rfl ⟨c1, c2, trivial⟩ ?_
      cases h
      exact hV.ri rfl rfl rfl hP
    · rw [if_neg c2] at h
      by_cases c3 : a2 = 5
      · rw [if_pos c3] at h
        refine hV.run 12 [1, 1, 0] (ws' := wX8 σ) (pc' := 44) (ls' := [(0, .ref 0), (1, .int a1), (2, .int a2)]) (st' := [.int (σ 0 3)]) (ps := [4 ≤ a2, ¬ a2 = 4, a2 = 5]) rfl ⟨c1, c2, c3, trivial⟩ ?_
        cases h
        exact hV.ri rfl rfl rfl hP
      · rw [if_neg c3] at h
        refine hV.run 12 [1, 1, 1] (ws' := wX8 σ) (pc' := 41) (ls' := [(0, .ref 0), (1, .int a1), (2, .int a2)]) (st' := [.int 6, .int a1, .ref 0]) (ps := [4 ≤ a2, ¬ a2 = 4, ¬ a2 = 5]) rfl ⟨c1, c2, c3, trivial⟩ ?_
        obtain ⟨q4, hq4, h⟩ := am_bind h
        refine hV.cOi (as := [.int a1, .int 6]) (rest := []) (st := [.int 6, .int a1, .ref 0]) (ws2 := wX8 σ) (pc2 := 44) kX8_337 (c_X8_own l σ a1 6 q4 hq4) rfl rfl rfl rfl rfl rfl rfl rfl rfl ?_
        cases h
        exact hV.ri rfl rfl rfl hP
  · rw [if_neg c1] at h
    refine hV.run 8 [0] (ws' := wX8 σ) (pc' := 10) (ls' := [(0, .ref 0), (1, .int a1), (2, .int a2)]) (st' := [.int (2 + a2), .int a1, .ref 0]) (ps := [¬ 4 ≤ a2]) rfl ⟨c1, trivial⟩ ?_
    obtain ⟨q5, hq5, h⟩ := am_bind h
    refine hV.cOi (as := [.int a1, .int (2 + a2)]) (rest := []) (st := [.int (2 + a2), .int a1, .ref 0]) (ws2 := wX8 σ) (pc2 := 13) kX8_337 (c_X8_own l σ a1 (2 + a2) q5 hq5) rfl rfl rfl rfl rfl rfl rfl rfl rfl ?_
    refine hV.run 1 [] (ws' := wX8 σ) (pc' := 44) (ls' := [(0, .ref 0), (1, .int a1), (2, .int a2)]) (st' := [.int q5]) (ps := []) rfl trivial ?_
    cases h
    exact hV.ri rfl rfl rfl hP

def X8_two (a1 : Int32) (a2 : Int32) (a3 : Int32) : Int32 := if a1 = 1 then (a2 + a3) else (if a1 = 2 then (a2 - a3) else (if a1 = 3 then (a2 * a3) else (if a1 = 4 then (if a3 = 0 then (0) else (a2 / a3)) else (if a1 = 5 then (if a3 ≤ a2 then (0) else (1)) else (if a2 = a3 then (1) else (0))))))
set_option maxRecDepth 100000 in
set_option maxHeartbeats 4000000 in
theorem c_X8_two (l : Launch) (a1 : Int32) (a2 : Int32) (a3 : Int32) : am_Con l yX8_two cX8_two 3 (some .int) 1 [.int a1, .int a2, .int a3] [] (fun (r : Option Value) (w : am_W) => r = (some (.int (X8_two a1 a2 a3))) ∧ w = []) := by
  obtain ⟨res, h⟩ : ∃ res, (X8_two a1 a2 a3) = res := ⟨_, rfl⟩
  rw [h]
  refine am_metn (n0 := 0) (own := RX8) (cd := am_cdT' tX8_two) (rf := am_rfL rfX8) (ini := false) rfl (by decide +kernel) rfl (by decide) dX8_two rfX8_ok (Nat.le_of_ble_eq_true rfl) ?_
  intro V hV
  have hP : (fun (r : Option Value) (w : am_W) => r = (some (.int res)) ∧ w = []) (some (.int res)) [] := ⟨rfl, rfl⟩
  show V [] 0 [(0, .int a1), (1, .int a2), (2, .int a3)] []
  unfold X8_two at h
  by_cases c1 : a1 = 1
  · rw [if_pos c1] at h
    refine hV.run 5 [1] (ws' := []) (pc' := 39) (ls' := [(0, .int a1), (1, .int a2), (2, .int a3)]) (st' := [.int (a2 + a3)]) (ps := [a1.toInt = 1 + ((0 : Nat) : Int), 0 < 5, ¬ 5 < a1.toInt]) rfl ⟨(by rw [c1]; decide), (by decide), (by rw [c1]; decide), trivial⟩ ?_
    subst h
    exact hV.ri rfl rfl rfl hP
  · rw [if_neg c1] at h
    by_cases c2 : a1 = 2
    · rw [if_pos c2] at h
      refine hV.run 5 [2] (ws' := []) (pc' := 43) (ls' := [(0, .int a1), (1, .int a2), (2, .int a3)]) (st' := [.int (a2 - a3)]) (ps := [a1.toInt = 1 + ((1 : Nat) : Int), 1 < 5, ¬ 5 < a1.toInt]) rfl ⟨(by rw [c2]; decide), (by decide), (by rw [c2]; decide), trivial⟩ ?_
      subst h
      exact hV.ri rfl rfl rfl hP
    · rw [if_neg c2] at h
      by_cases c3 : a1 = 3
      · rw [if_pos c3] at h
        refine hV.run 5 [3] (ws' := []) (pc' := 47) (ls' := [(0, .int a1), (1, .int a2), (2, .int a3)]) (st' := [.int (a2 * a3)]) (ps := [a1.toInt = 1 + ((2 : Nat) : Int), 2 < 5, ¬ 5 < a1.toInt]) rfl ⟨(by rw [c3]; decide), (by decide), (by rw [c3]; decide), trivial⟩ ?_
        subst h
        exact hV.ri rfl rfl rfl hP
      · rw [if_neg c3] at h
        by_cases c4 : a1 = 4
        · rw [if_pos c4] at h
          by_cases c5 : a3 = 0
          · rw [if_pos c5] at h
            refine hV.run 6 [4, 0] (ws' := []) (pc' := 59) (ls' := [(0, .int a1), (1, .int a2), (2, .int a3)]) (st' := [.int 0]) (ps := [a1.toInt = 1 + ((3 : Nat) : Int), 3 < 5, ¬ 5 < a1.toInt, a3 = 0]) rfl ⟨(by rw [c4]; decide), (by decide), (by rw [c4]; decide), c5, trivial⟩ ?_
            subst h
            exact hV.ri rfl rfl rfl hP
          · rw [if_neg c5] at h
            refine hV.run 7 [4, 1] (ws' := []) (pc' := 59) (ls' := [(0, .int a1), (1, .int a2), (2, .int a3)]) (st' := [.int (a2 / a3)]) (ps := [a1.toInt = 1 + ((3 : Nat) : Int), 3 < 5, ¬ 5 < a1.toInt, ¬ a3 = 0, ¬ a3 = 0]) rfl ⟨(by rw [c4]; decide), (by decide), (by rw [c4]; decide), c5, c5, trivial⟩ ?_
            subst h
            exact hV.ri rfl rfl rfl hP
        · rw [if_neg c4] at h
          by_cases c6 : a1 = 5
          · rw [if_pos c6] at h
            by_cases c7 : a3 ≤ a2
            · rw [if_pos c7] at h
              refine hV.run 6 [5, 1] (ws' := []) (pc' := 70) (ls' := [(0, .int a1), (1, .int a2), (2, .int a3)]) (st' := [.int 0]) (ps := [a1.toInt = 1 + ((4 : Nat) : Int), 4 < 5, ¬ 5 < a1.toInt, a3 ≤ a2]) rfl ⟨(by rw [c6]; decide), (by decide), (by rw [c6]; decide), c7, trivial⟩ ?_
              subst h
              exact hV.ri rfl rfl rfl hP
            · rw [if_neg c7] at h
              refine hV.run 7 [5, 0] (ws' := []) (pc' := 70) (ls' := [(0, .int a1), (1, .int a2), (2, .int a3)]) (st' := [.int 1]) (ps := [a1.toInt = 1 + ((4 : Nat) : Int), 4 < 5, ¬ 5 < a1.toInt, ¬ a3 ≤ a2]) rfl ⟨(by rw [c6]; decide), (by decide), (by rw [c6]; decide), c7, trivial⟩ ?_
              subst h
              exact hV.ri rfl rfl rfl hP
          · rw [if_neg c6] at h
            by_cases c8 : a2 = a3
            · rw [if_pos c8] at h
              refine hV.run 7 [0, 0] (ws' := []) (pc' := 81) (ls' := [(0, .int a1), (1, .int a2), (2, .int a3)]) (st' := [.int 1]) (ps := [a1.toInt < 1 ∨ 5 < a1.toInt, a2 = a3]) rfl ⟨(by have c1_ := am_ne c1 (by decide : (1 : Int32).toInt = 1); have c2_ := am_ne c2 (by decide : (2 : Int32).toInt = 2); have c3_ := am_ne c3 (by decide : (3 : Int32).toInt = 3); have c4_ := am_ne c4 (by decide : (4 : Int32).toInt = 4); have c6_ := am_ne c6 (by decide : (5 : Int32).toInt = 5); omega), c8, trivial⟩ ?_
              subst h
              exact hV.ri rfl rfl rfl hP
            · rw [if_neg c8] at h
              refine hV.run 6 [0, 1] (ws' := []) (pc' := 81) (ls' := [(0, .int a1), (1, .int a2), (2, .int a3)]) (st' := [.int 0]) (ps := [a1.toInt < 1 ∨ 5 < a1.toInt, ¬ a2 = a3]) rfl ⟨(by have c1_ := am_ne c1 (by decide : (1 : Int32).toInt = 1); have c2_ := am_ne c2 (by decide : (2 : Int32).toInt = 2); have c3_ := am_ne c3 (by decide : (3 : Int32).toInt = 3); have c4_ := am_ne c4 (by decide : (4 : Int32).toInt = 4); have c6_ := am_ne c6 (by decide : (5 : Int32).toInt = 5); omega), c8, trivial⟩ ?_
              subst h
              exact hV.ri rfl rfl rfl hP

