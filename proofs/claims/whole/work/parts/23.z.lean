def X7_choiceOf (a1 : Int64) (a2 : Int32) : Int32 := (((am_lushr a1 (4 * a2)).toInt32) &&& 15)
set_option maxRecDepth 100000 in
set_option maxHeartbeats 4000000 in
theorem c_X7_choiceOf (l : Launch) (a1 : Int64) (a2 : Int32) : am_Con l yX7_choiceOf cX7_choiceOf 3 (some .int) 1 [.long a1, .int a2] [] (fun (r : Option Value) (w : am_W) => r = (some (.int (X7_choiceOf a1 a2))) ∧ w = []) := by
  obtain ⟨res, h⟩ : ∃ res, (X7_choiceOf a1 a2) = res := ⟨_, rfl⟩
  rw [h]
  refine am_metn (n0 := 0) (own := RX7) (cd := am_cdT' tX7_choiceOf) (rf := am_rfL rfX7) (ini := false) rfl (by decide +kernel) rfl (by decide) dX7_choiceOf rfX7_ok (Nat.le_of_ble_eq_true rfl) ?_
  intro V hV
  have hP : (fun (r : Option Value) (w : am_W) => r = (some (.int res)) ∧ w = []) (some (.int res)) [] := ⟨rfl, rfl⟩
  show V [] 0 [(0, .long a1), (2, .int a2)] []
  unfold X7_choiceOf at h
  refine hV.run 8 [] (ws' := []) (pc' := 9) (ls' := [(0, .long a1), (2, .int a2)]) (st' := [.int (((am_lushr a1 (4 * a2)).toInt32) &&& 15)]) (ps := []) rfl trivial ?_
  subst h
  exact hV.ri rfl rfl rfl hP

def X7_isNoRoom (a1 : Int32) : Bool := if a1 < 0 then (true) else (if a1 ≤ 3 then (false) else (true))
set_option maxRecDepth 100000 in
set_option maxHeartbeats 4000000 in
theorem c_X7_isNoRoom (l : Launch) (a1 : Int32) : am_Con l yX7_isNoRoom cX7_isNoRoom 1 (some .boolean) 1 [.int a1] [] (fun (r : Option Value) (w : am_W) => r = (some (.int (b2i (X7_isNoRoom a1)))) ∧ w = []) := by
  obtain ⟨res, h⟩ : ∃ res, (X7_isNoRoom a1) = res := ⟨_, rfl⟩
  rw [h]
  refine am_metn (n0 := 0) (own := RX7) (cd := am_cdT' tX7_isNoRoom) (rf := am_rfL rfX7) (ini := false) rfl (by decide +kernel) rfl (by decide) dX7_isNoRoom rfX7_ok (Nat.le_of_ble_eq_true rfl) ?_
  intro V hV
  have hP : (fun (r : Option Value) (w : am_W) => r = (some (.int (b2i res))) ∧ w = []) (some (.int (b2i res))) [] := ⟨rfl, rfl⟩
  show V [] 0 [(0, .int a1)] []
  unfold X7_isNoRoom at h
  by_cases c1 : a1 < 0
  · rw [if_pos c1] at h
    refine hV.run 4 [1] (ws' := []) (pc' := 14) (ls' := [(0, .int a1)]) (st' := [.int 1]) (ps := [a1 < 0]) rfl ⟨c1, trivial⟩ ?_
    subst h
    exact hV.rz rfl rfl rfl (Or.inr rfl) hP
  · rw [if_neg c1] at h
    by_cases c2 : a1 ≤ 3
    · rw [if_pos c2] at h
      refine hV.run 6 [0, 1] (ws' := []) (pc' := 14) (ls' := [(0, .int a1)]) (st' := [.int 0]) (ps := [¬ a1 < 0, a1 ≤ 3]) rfl ⟨c1, c2, trivial⟩ ?_
      subst h
      exact hV.rz rfl rfl rfl (Or.inl rfl) hP
    · rw [if_neg c2] at h
      refine hV.run 7 [0, 0] (ws' := []) (pc' := 14) (ls' := [(0, .int a1)]) (st' := [.int 1]) (ps := [¬ a1 < 0, ¬ a1 ≤ 3]) rfl ⟨c1, c2, trivial⟩ ?_
      subst h
      exact hV.rz rfl rfl rfl (Or.inr rfl) hP

