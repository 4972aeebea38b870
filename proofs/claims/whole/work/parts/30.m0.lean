def wX8 (σ : am_M) : am_W := [.inr (8, [.ref 1, .ref 2, .int (σ 0 2), .int (σ 0 3), .int (σ 0 4), .int (σ 0 5), .int (σ 0 6), .int (σ 0 7), .int (σ 0 8), .ref 3, .int (σ 0 10), .int (σ 0 11), .int (σ 0 12), .int (σ 0 13), .int (σ 0 14), .int (σ 0 15), .int (σ 0 16), .int (σ 0 17), .int (σ 0 18), .int (σ 0 19), .int (σ 0 20), .int (σ 0 21), .ref 4, .ref 5, .ref 6, .ref 7, .ref 8, .ref 9, .ref 10, .ref 11, .ref 12, .ref 13, .ref 14, .ref 15, .ref 16, .int (σ 0 35), .ref 17, .ref 18, .ref 19, .ref 20, .int (σ 0 40), .int (σ 0 41), .int (σ 0 42), .ref 21, .ref 22, .ref 23, .int (σ 0 46), .int (σ 0 47), .int (σ 0 48), .ref 24, .ref 25, .int (σ 0 51), .int (σ 0 52), .int (σ 0 53), .ref 26, .ref 27, .int (σ 0 56), .int (σ 0 57), .int (σ 0 58), .int (σ 0 59), .int (σ 0 60), .ref 28, .ref 29, .ref 30, .ref 31, .ref 32, .ref 33, .ref 34, .int (σ 0 68), .ref 35]),
  .inl (3, 11, .inr (.inr (.inr (.inr (fun j => some (1 + j)))))),
  .inl (3, 7, .inr (.inr (.inr (.inr (fun j => some (12 + j)))))),
  .inl (0, 700, .inl (σ 3)),
  .inl (0, 2, .inl (σ 4)),
  .inl (0, 2160, .inl (σ 5)),
  .inl (0, 80, .inl (σ 6)),
  .inl (0, 240, .inl (σ 7)),
  .inl (0, 240, .inl (σ 8)),
  .inl (0, 80, .inl (σ 9)),
  .inl (0, 80, .inl (σ 10)),
  .inl (0, 80, .inl (σ 11)),
  .inl (0, 80, .inl (σ 12)),
  .inl (0, 80, .inl (σ 13)),
  .inl (1, 40, .inl (σ 14)),
  .inl (0, 1985, .inl (σ 15)),
  .inl (0, 360, .inl (σ 16)),
  .inl (0, 8, .inl (σ 17)),
  .inl (0, 8, .inl (σ 18)),
  .inl (0, 8, .inl (σ 19)),
  .inl (0, 321, .inl (σ 20)),
  .inl (0, 397000, .inl (σ 21)),
  .inl (0, 201, .inl (σ 22)),
  .inl (1, 201, .inl (σ 23)),
  .inl (0, 320, .inl (σ 24)),
  .inl (0, 2211, .inl (σ 25)),
  .inl (0, 320, .inl (σ 26)),
  .inl (1, 40, .inl (σ 27)),
  .inl (0, 1985, .inl (σ 28)),
  .inl (0, 320, .inl (σ 29)),
  .inl (0, 8, .inl (σ 30)),
  .inl (0, 8, .inl (σ 31)),
  .inl (0, 8, .inl (σ 32)),
  .inl (0, 8, .inl (σ 33)),
  .inl (0, 8, .inl (σ 34)),
  .inl (0, 320, .inl (σ 35))]
def X8_thrown (σ : am_M) : Int32 := (σ 0 2)
set_option maxRecDepth 100000 in
set_option maxHeartbeats 4000000 in
theorem c_X8_thrown (l : Launch) (σ : am_M) : am_Con l yX8_thrown cX8_thrown 1 (some .int) 1 [.ref 0] (wX8 σ) (fun (r : Option Value) (w : am_W) => r = (some (.int (X8_thrown σ))) ∧ w = (wX8 σ)) := by
  obtain ⟨res, h⟩ : ∃ res, (X8_thrown σ) = res := ⟨_, rfl⟩
  rw [h]
  refine am_metn (n0 := 36) (own := RX8) (cd := am_cdT' tX8_thrown) (rf := am_rfL rfX8) (ini := false) rfl (by decide +kernel) rfl (by decide) dX8_thrown rfX8_ok (Nat.le_of_ble_eq_true rfl) ?_
  intro V hV
  have hP : (fun (r : Option Value) (w : am_W) => r = (some (.int res)) ∧ w = (wX8 σ)) (some (.int res)) (wX8 σ) := ⟨rfl, rfl⟩
  show V (wX8 σ) 0 [(0, .ref 0)] []
  unfold X8_thrown at h
  refine hV.run 2 [] (ws' := wX8 σ) (pc' := 4) (ls' := [(0, .ref 0)]) (st' := [.int (σ 0 2)]) (ps := []) rfl trivial ?_
  subst h
  exact hV.ri rfl rfl rfl hP

def X8_fail (σ : am_M) (a1 : Int32) : Option (Int32 × am_M) := some (0, sC σ 0 (am_u (σ 0) 2 a1))
set_option maxRecDepth 100000 in
set_option maxHeartbeats 4000000 in
theorem c_X8_fail (l : Launch) (σ : am_M) (a1 : Int32) (res : (Int32 × am_M)) (h : X8_fail σ a1 = some res) : am_Con l yX8_fail cX8_fail 2 (some .int) 1 [.ref 0, .int a1] (wX8 σ) (fun (r : Option Value) (w : am_W) => r = (some (.int res.1)) ∧ w = (wX8 res.2)) := by
  refine am_metn (n0 := 36) (own := RX8) (cd := am_cdT' tX8_fail) (rf := am_rfL rfX8) (ini := false) rfl (by decide +kernel) rfl (by decide) dX8_fail rfX8_ok (Nat.le_of_ble_eq_true rfl) ?_
  intro V hV
  have hP : (fun (r : Option Value) (w : am_W) => r = (some (.int res.1)) ∧ w = (wX8 res.2)) (some (.int res.1)) (wX8 res.2) := ⟨rfl, rfl⟩
  show V (wX8 σ) 0 [(0, .ref 0), (1, .int a1)] []
  unfold X8_fail at h
  refine hV.run 4 [] (ws' := wX8 (sC σ 0 (am_u (σ 0) 2 a1))) (pc' := 6) (ls' := [(0, .ref 0), (1, .int a1)]) (st' := [.int 0]) (ps := []) rfl trivial ?_
  cases h
  exact hV.ri rfl rfl rfl hP

def X8_refuse (σ : am_M) (a1 : Int32) : Option (Bool × am_M) := some (false, sC σ 0 (am_u (σ 0) 2 a1))
set_option maxRecDepth 100000 in
set_option maxHeartbeats 4000000 in
theorem c_X8_refuse (l : Launch) (σ : am_M) (a1 : Int32) (res : (Bool × am_M)) (h : X8_refuse σ a1 = some res) : am_Con l yX8_refuse cX8_refuse 2 (some .boolean) 1 [.ref 0, .int a1] (wX8 σ) (fun (r : Option Value) (w : am_W) => r = (some (.int (b2i res.1))) ∧ w = (wX8 res.2)) := by
  refine am_metn (n0 := 36) (own := RX8) (cd := am_cdT' tX8_refuse) (rf := am_rfL rfX8) (ini := false) rfl (by decide +kernel) rfl (by decide) dX8_refuse rfX8_ok (Nat.le_of_ble_eq_true rfl) ?_
  intro V hV
  have hP : (fun (r : Option Value) (w : am_W) => r = (some (.int (b2i res.1))) ∧ w = (wX8 res.2)) (some (.int (b2i res.1))) (wX8 res.2) := ⟨rfl, rfl⟩
  show V (wX8 σ) 0 [(0, .ref 0), (1, .int a1)] []
  unfold X8_refuse at h
  refine hV.run 4 [] (ws' := wX8 (sC σ 0 (am_u (σ 0) 2 a1))) (pc' := 6) (ls' := [(0, .ref 0), (1, .int a1)]) (st' := [.int 0]) (ps := []) rfl trivial ?_
  cases h
  exact hV.rz rfl rfl rfl (Or.inl rfl) hP

def X8_isIn (a1 : Int32) (a2 : Int32) (a3 : Int32) : Bool := if a1 < a2 then (false) else (if a3 < a1 then (false) else (true))
set_option maxRecDepth 100000 in
set_option maxHeartbeats 4000000 in
theorem c_X8_isIn (l : Launch) (a1 : Int32) (a2 : Int32) (a3 : Int32) : am_Con l yX8_isIn cX8_isIn 3 (some .boolean) 1 [.int a1, .int a2, .int a3] [] (fun (r : Option Value) (w : am_W) => r = (some (.int (b2i (X8_isIn a1 a2 a3)))) ∧ w = []) := by
  obtain ⟨res, h⟩ : ∃ res, (X8_isIn a1 a2 a3) = res := ⟨_, rfl⟩
  rw [h]
  refine am_metn (n0 := 0) (own := RX8) (cd := am_cdT' tX8_isIn) (rf := am_rfL rfX8) (ini := false) rfl (by decide +kernel) rfl (by decide) dX8_isIn rfX8_ok (Nat.le_of_ble_eq_true rfl) ?_
  intro V hV
  have hP : (fun (r : Option Value) (w : am_W) => r = (some (.int (b2i res))) ∧ w = []) (some (.int (b2i res))) [] := ⟨rfl, rfl⟩
  show V [] 0 [(0, .int a1), (1, .int a2), (2, .int a3)] []
  unfold X8_isIn at h
  by_cases c1 : a1 < a2
  · rw [if_pos c1] at h
    refine hV.run 4 [1] (ws' := []) (pc' := 15) (ls' := [(0, .int a1), (1, .int a2), (2, .int a3)]) (st' := [.int 0]) (ps := [a1 < a2]) rfl ⟨c1, trivial⟩ ?_
    subst h
    exact hV.rz rfl rfl rfl (Or.inl rfl) hP
  · rw [if_neg c1] at h
    by_cases c2 : a3 < a1
    · rw [if_pos c2] at h
      refine hV.run 7 [0, 1] (ws' := []) (pc' := 15) (ls' := [(0, .int a1), (1, .int a2), (2, .int a3)]) (st' := [.int 0]) (ps := [¬ a1 < a2, a3 < a1]) rfl ⟨c1, c2, trivial⟩ ?_
      subst h
      exact hV.rz rfl rfl rfl (Or.inl rfl) hP
    · rw [if_neg c2] at h
      refine hV.run 8 [0, 0] (ws' := []) (pc' := 15) (ls' := [(0, .int a1), (1, .int a2), (2, .int a3)]) (st' := [.int 1]) (ps := [¬ a1 < a2, ¬ a3 < a1]) rfl ⟨c1, c2, trivial⟩ ?_
      subst h
      exact hV.rz rfl rfl rfl (Or.inr rfl) hP

def X8_byteAt (σ : am_M) (a1 : Int32) : Option Int32 := if (σ 0 12) ≤ a1 then (some (-1)) else (if a1 < 0 ∨ 700 ≤ a1.toNatClampNeg then none else (some (σ 3 a1.toNatClampNeg)))
set_option maxRecDepth 100000 in
set_option maxHeartbeats 4000000 in
theorem c_X8_byteAt (l : Launch) (σ : am_M) (a1 : Int32) (res : Int32) (h : X8_byteAt σ a1 = some res) : am_Con l yX8_byteAt cX8_byteAt 2 (some .int) 1 [.ref 0, .int a1] (wX8 σ) (fun (r : Option Value) (w : am_W) => r = (some (.int res)) ∧ w = (wX8 σ)) := by
  refine am_metn (n0 := 36) (own := RX8) (cd := am_cdT' tX8_byteAt) (rf := am_rfL rfX8) (ini := false) rfl (by decide +kernel) rfl (by decide) dX8_byteAt rfX8_ok (Nat.le_of_ble_eq_true rfl) ?_
  intro V hV
  have hP : (fun (r : Option Value) (w : am_W) => r = (some (.int res)) ∧ w = (wX8 σ)) (some (.int res)) (wX8 σ) := ⟨rfl, rfl⟩
  show V (wX8 σ) 0 [(0, .ref 0), (1, .int a1)] []
  unfold X8_byteAt at h
  by_cases c1 : (σ 0 12) ≤ a1
  · rw [if_pos c1] at h
    refine hV.run 5 [1] (ws' := wX8 σ) (pc' := 18) (ls' := [(0, .ref 0), (1, .int a1)]) (st' := [.int (-1)]) (ps := [(σ 0 12) ≤ a1]) rfl ⟨c1, trivial⟩ ?_
    cases h
    exact hV.ri rfl rfl rfl hP
  · rw [if_neg c1] at h
    by_cases g2 : a1 < 0 ∨ 700 ≤ a1.toNatClampNeg
    · rw [if_pos g2] at h; cases h
    rw [if_neg g2] at h
    refine hV.run 9 [0] (ws' := wX8 σ) (pc' := 18) (ls' := [(0, .ref 0), (1, .int a1)]) (st' := [.int (σ 3 a1.toNatClampNeg)]) (ps := [¬ (σ 0 12) ≤ a1, vp_in a1 700]) rfl ⟨c1, g2, trivial⟩ ?_
    cases h
    exact hV.ri rfl rfl rfl hP

def X8_isLetter (a1 : Int32) : Bool := if a1 < 97 then (false) else (if 122 < a1 then (false) else (true))
set_option maxRecDepth 100000 in
set_option maxHeartbeats 4000000 in
theorem c_X8_isLetter (l : Launch) (a1 : Int32) : am_Con l yX8_isLetter cX8_isLetter 1 (some .boolean) 1 [.int a1] [] (fun (r : Option Value) (w : am_W) => r = (some (.int (b2i (X8_isLetter a1)))) ∧ w = []) := by
  obtain ⟨res, h⟩ : ∃ res, (X8_isLetter a1) = res := ⟨_, rfl⟩
  rw [h]
  refine am_metn (n0 := 0) (own := RX8) (cd := am_cdT' tX8_isLetter) (rf := am_rfL rfX8) (ini := false) rfl (by decide +kernel) rfl (by decide) dX8_isLetter rfX8_ok (Nat.le_of_ble_eq_true rfl) ?_
  intro V hV
  have hP : (fun (r : Option Value) (w : am_W) => r = (some (.int (b2i res))) ∧ w = []) (some (.int (b2i res))) [] := ⟨rfl, rfl⟩
  show V [] 0 [(0, .int a1)] []
  unfold X8_isLetter at h
  by_cases c1 : a1 < 97
  · rw [if_pos c1] at h
    refine hV.run 4 [1] (ws' := []) (pc' := 17) (ls' := [(0, .int a1)]) (st' := [.int 0]) (ps := [a1 < 97]) rfl ⟨c1, trivial⟩ ?_
    subst h
    exact hV.rz rfl rfl rfl (Or.inl rfl) hP
  · rw [if_neg c1] at h
    by_cases c2 : 122 < a1
    · rw [if_pos c2] at h
      refine hV.run 7 [0, 1] (ws' := []) (pc' := 17) (ls' := [(0, .int a1)]) (st' := [.int 0]) (ps := [¬ a1 < 97, 122 < a1]) rfl ⟨c1, c2, trivial⟩ ?_
      subst h
      exact hV.rz rfl rfl rfl (Or.inl rfl) hP
    · rw [if_neg c2] at h
      refine hV.run 8 [0, 0] (ws' := []) (pc' := 17) (ls' := [(0, .int a1)]) (st' := [.int 1]) (ps := [¬ a1 < 97, ¬ 122 < a1]) rfl ⟨c1, c2, trivial⟩ ?_
      subst h
      exact hV.rz rfl rfl rfl (Or.inr rfl) hP

