def J9_max_7cf53 (a1 : Int32) (a2 : Int32) : Int32 := if a1 < a2 then (a2) else (a1)
set_option maxRecDepth 100000 in
set_option maxHeartbeats 4000000 in
theorem c_J9_max_7cf53 (l : Launch) (a1 : Int32) (a2 : Int32) : am_Con l yJ9_max_7cf53 cJ9_max_7cf53 2 (some .int) 1 [.int a1, .int a2] [] (fun (r : Option Value) (w : am_W) => r = (some (.int (J9_max_7cf53 a1 a2))) ∧ w = []) := by
  obtain ⟨res, h⟩ : ∃ res, (J9_max_7cf53 a1 a2) = res := ⟨_, rfl⟩
  rw [h]
  refine am_metn (n0 := 0) (own := RJ9) (cd := am_cdT' tJ9_max_7cf53) (rf := am_rfL []) (ini := false) rfl (by decide +kernel) rfl (by decide) dJ9_max_7cf53 am_rf0 (Nat.le_of_ble_eq_true rfl) ?_
  intro V hV
  have hP : (fun (r : Option Value) (w : am_W) => r = (some (.int res)) ∧ w = []) (some (.int res)) [] := ⟨rfl, rfl⟩
  show V [] 0 [(0, .int a1), (1, .int a2)] []
  unfold J9_max_7cf53 at h
  by_cases c1 : a1 < a2
  · rw [if_pos c1] at h
    refine hV.run 4 [1] (ws' := []) (pc' := 10) (ls' := [(0, .int a1), (1, .int a2)]) (st' := [.int a2]) (ps := [a1 < a2]) rfl ⟨c1, trivial⟩ ?_
    subst h
    exact hV.ri rfl rfl rfl hP
  · rw [if_neg c1] at h
    refine hV.run 5 [0] (ws' := []) (pc' := 10) (ls' := [(0, .int a1), (1, .int a2)]) (st' := [.int a1]) (ps := [¬ a1 < a2]) rfl ⟨c1, trivial⟩ ?_
    subst h
    exact hV.ri rfl rfl rfl hP

def J9_min_7cf53 (a1 : Int32) (a2 : Int32) : Int32 := if a2 < a1 then (a2) else (a1)
set_option maxRecDepth 100000 in
set_option maxHeartbeats 4000000 in
theorem c_J9_min_7cf53 (l : Launch) (a1 : Int32) (a2 : Int32) : am_Con l yJ9_min_7cf53 cJ9_min_7cf53 2 (some .int) 1 [.int a1, .int a2] [] (fun (r : Option Value) (w : am_W) => r = (some (.int (J9_min_7cf53 a1 a2))) ∧ w = []) := by
  obtain ⟨res, h⟩ : ∃ res, (J9_min_7cf53 a1 a2) = res := ⟨_, rfl⟩
  rw [h]
  refine am_metn (n0 := 0) (own := RJ9) (cd := am_cdT' tJ9_min_7cf53) (rf := am_rfL []) (ini := false) rfl (by decide +kernel) rfl (by decide) dJ9_min_7cf53 am_rf0 (Nat.le_of_ble_eq_true rfl) ?_
  intro V hV
  have hP : (fun (r : Option Value) (w : am_W) => r = (some (.int res)) ∧ w = []) (some (.int res)) [] := ⟨rfl, rfl⟩
  show V [] 0 [(0, .int a1), (1, .int a2)] []
  unfold J9_min_7cf53 at h
  by_cases c1 : a2 < a1
  · rw [if_pos c1] at h
    refine hV.run 4 [1] (ws' := []) (pc' := 10) (ls' := [(0, .int a1), (1, .int a2)]) (st' := [.int a2]) (ps := [a2 < a1]) rfl ⟨c1, trivial⟩ ?_
    subst h
    exact hV.ri rfl rfl rfl hP
  · rw [if_neg c1] at h
    refine hV.run 5 [0] (ws' := []) (pc' := 10) (ls' := [(0, .int a1), (1, .int a2)]) (st' := [.int a1]) (ps := [¬ a2 < a1]) rfl ⟨c1, trivial⟩ ?_
    subst h
    exact hV.ri rfl rfl rfl hP

def J9_abs_0f7a4 (a1 : Int32) : Int32 := if 0 ≤ a1 then (a1) else (-a1)
set_option maxRecDepth 100000 in
set_option maxHeartbeats 4000000 in
theorem c_J9_abs_0f7a4 (l : Launch) (a1 : Int32) : am_Con l yJ9_abs_0f7a4 cJ9_abs_0f7a4 1 (some .int) 1 [.int a1] [] (fun (r : Option Value) (w : am_W) => r = (some (.int (J9_abs_0f7a4 a1))) ∧ w = []) := by
  obtain ⟨res, h⟩ : ∃ res, (J9_abs_0f7a4 a1) = res := ⟨_, rfl⟩
  rw [h]
  refine am_metn (n0 := 0) (own := RJ9) (cd := am_cdT' tJ9_abs_0f7a4) (rf := am_rfL []) (ini := false) rfl (by decide +kernel) rfl (by decide) dJ9_abs_0f7a4 am_rf0 (Nat.le_of_ble_eq_true rfl) ?_
  intro V hV
  have hP : (fun (r : Option Value) (w : am_W) => r = (some (.int res)) ∧ w = []) (some (.int res)) [] := ⟨rfl, rfl⟩
  show V [] 0 [(0, .int a1)] []
  unfold J9_abs_0f7a4 at h
  by_cases c1 : 0 ≤ a1
  · rw [if_pos c1] at h
    refine hV.run 3 [1] (ws' := []) (pc' := 10) (ls' := [(0, .int a1)]) (st' := [.int a1]) (ps := [0 ≤ a1]) rfl ⟨c1, trivial⟩ ?_
    subst h
    exact hV.ri rfl rfl rfl hP
  · rw [if_neg c1] at h
    refine hV.run 5 [0] (ws' := []) (pc' := 10) (ls' := [(0, .int a1)]) (st' := [.int (-a1)]) (ps := [¬ 0 ≤ a1]) rfl ⟨c1, trivial⟩ ?_
    subst h
    exact hV.ri rfl rfl rfl hP

def J6_compare_7cf53 (a1 : Int32) (a2 : Int32) : Int32 := if a2 ≤ a1 then (if a1 = a2 then (0) else (1)) else (-1)
set_option maxRecDepth 100000 in
set_option maxHeartbeats 4000000 in
theorem c_J6_compare_7cf53 (l : Launch) (a1 : Int32) (a2 : Int32) : am_Con l yJ6_compare_7cf53 cJ6_compare_7cf53 2 (some .int) 1 [.int a1, .int a2] [] (fun (r : Option Value) (w : am_W) => r = (some (.int (J6_compare_7cf53 a1 a2))) ∧ w = []) := by
  obtain ⟨res, h⟩ : ∃ res, (J6_compare_7cf53 a1 a2) = res := ⟨_, rfl⟩
  rw [h]
  refine am_metn (n0 := 0) (own := RJ6) (cd := am_cdT' tJ6_compare_7cf53) (rf := am_rfL []) (ini := false) rfl (by decide +kernel) rfl (by decide) dJ6_compare_7cf53 am_rf0 (Nat.le_of_ble_eq_true rfl) ?_
  intro V hV
  have hP : (fun (r : Option Value) (w : am_W) => r = (some (.int res)) ∧ w = []) (some (.int res)) [] := ⟨rfl, rfl⟩
  show V [] 0 [(0, .int a1), (1, .int a2)] []
  unfold J6_compare_7cf53 at h
  by_cases c1 : a2 ≤ a1
  · rw [if_pos c1] at h
    by_cases c2 : a1 = a2
    · rw [if_pos c2] at h
      refine hV.run 8 [1, 0] (ws' := []) (pc' := 19) (ls' := [(0, .int a1), (1, .int a2)]) (st' := [.int 0]) (ps := [a2 ≤ a1, a1 = a2]) rfl ⟨c1, c2, trivial⟩ ?_
      subst h
      exact hV.ri rfl rfl rfl hP
    · rw [if_neg c2] at h
      refine hV.run 7 [1, 1] (ws' := []) (pc' := 19) (ls' := [(0, .int a1), (1, .int a2)]) (st' := [.int 1]) (ps := [a2 ≤ a1, ¬ a1 = a2]) rfl ⟨c1, c2, trivial⟩ ?_
      subst h
      exact hV.ri rfl rfl rfl hP
  · rw [if_neg c1] at h
    refine hV.run 5 [0] (ws' := []) (pc' := 19) (ls' := [(0, .int a1), (1, .int a2)]) (st' := [.int (-1)]) (ps := [¬ a2 ≤ a1]) rfl ⟨c1, trivial⟩ ?_
    subst h
    exact hV.ri rfl rfl rfl hP

