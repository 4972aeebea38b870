def wX1 (σ : am_M) : am_W := [.inr (1, [.ref 1, .ref 6, .int (σ 0 2), .int (σ 0 3), .ref 14, .ref 15, .int (σ 0 6), .ref 16, .int (σ 0 8), .int (σ 0 9), .int (σ 0 10)]),
  .inr (5, [.ref 2, .int (σ 1 1), .ref 3, .ref 4, .ref 5, .int (σ 1 5), .int (σ 1 6)]),
  .inl (0, 700, .inl (σ 2)),
  .inl (0, 701, .inl (σ 3)),
  .inl (0, 701, .inl (σ 4)),
  .inl (0, 701, .inl (σ 5)),
  .inr (3, [.ref 7, .ref 8, .ref 9, .ref 10, .ref 11, .ref 12, .ref 13, .int (σ 6 7), .int (σ 6 8), .int (σ 6 9)]),
  .inl (0, 40, .inl (σ 7)),
  .inl (0, 40, .inl (σ 8)),
  .inl (0, 40, .inl (σ 9)),
  .inl (0, 40, .inl (σ 10)),
  .inl (0, 40, .inl (σ 11)),
  .inl (0, 120, .inl (σ 12)),
  .inl (0, 900, .inl (σ 13)),
  .inl (0, 4, .inl (σ 14)),
  .inl (0, 4, .inl (σ 15)),
  .inl (0, 40, .inl (σ 16))]
def X1_refuse (σ : am_M) (a1 : Int32) : Option am_M := if (σ 0 2) = 0 then (some (sC σ 0 (am_u (am_u (σ 0) 2 a1) 3 (jat 701 (σ 4) (σ 1 6))))) else (some σ)
set_option maxRecDepth 100000 in
set_option maxHeartbeats 4000000 in
theorem c_X1_refuse (l : Launch) (σ : am_M) (a1 : Int32) (res : am_M) (h : X1_refuse σ a1 = some res) : am_Con l yX1_refuse cX1_refuse 2 none 2 [.ref 0, .int a1] (wX1 σ) (fun (r : Option Value) (w : am_W) => r = none ∧ w = (wX1 res)) := by
  refine am_metn (n0 := 17) (own := RX1) (cd := am_cdT' tX1_refuse) (rf := am_rfL rfX1) (ini := false) rfl (by decide +kernel) rfl (by decide) dX1_refuse rfX1_ok (Nat.le_of_ble_eq_true rfl) ?_
  intro V hV
  have hP : (fun (r : Option Value) (w : am_W) => r = none ∧ w = (wX1 res)) none (wX1 res) := ⟨rfl, rfl⟩
  show V (wX1 σ) 0 [(0, .ref 0), (1, .int a1)] []
  unfold X1_refuse at h
  by_cases c1 : (σ 0 2) = 0
  · rw [if_pos c1] at h
    refine hV.run 13 [0] (ws' := wX1 (sC σ 0 (am_u (σ 0) 2 a1))) (pc' := 27) (ls' := [(0, .ref 0), (1, .int a1)]) (st' := [.int (σ 1 6), .ref 4, .ref 0]) (ps := [(σ 0 2) = 0]) rfl ⟨c1, trivial⟩ ?_
    refine hV.cSi (as := [.ref 0, .int (σ 1 6)]) (js := [4]) (rest := [.ref 0]) (st := [.int (σ 1 6), .ref 4, .ref 0]) (ws2 := wX1 (sC σ 0 (am_u (σ 0) 2 a1))) (pc2 := 30) kX1_74 (c_at l 1 701 (by decide) (σ 4) (σ 1 6)) rfl rfl rfl rfl rfl rfl rfl rfl rfl rfl ?_
    refine hV.run 1 [] (ws' := wX1 (sC σ 0 (am_u (am_u (σ 0) 2 a1) 3 (jat 701 (σ 4) (σ 1 6))))) (pc' := 33) (ls' := [(0, .ref 0), (1, .int a1)]) (st' := []) (ps := []) rfl trivial ?_
    cases h
    exact hV.rv rfl rfl rfl hP
  · rw [if_neg c1] at h
    refine hV.run 3 [1] (ws' := wX1 σ) (pc' := 33) (ls' := [(0, .ref 0), (1, .int a1)]) (st' := []) (ps := [¬ (σ 0 2) = 0]) rfl ⟨c1, trivial⟩ ?_
    cases h
    exact hV.rv rfl rfl rfl hP

def X1_need (σ : am_M) (a1 : Int32) : Option am_M := if (X5_sort (am_sub σ 1)) = a1 then (X5_advance (am_sub σ 1)).bind (fun q2 => some (am_put σ 1 5 q2)) else (X1_refuse σ 1).bind (fun q3 => some q3)
set_option maxRecDepth 100000 in
set_option maxHeartbeats 4000000 in
theorem c_X1_need (l : Launch) (σ : am_M) (a1 : Int32) (res : am_M) (h : X1_need σ a1 = some res) : am_Con l yX1_need cX1_need 2 none 3 [.ref 0, .int a1] (wX1 σ) (fun (r : Option Value) (w : am_W) => r = none ∧ w = (wX1 res)) := by
  refine am_metn (n0 := 17) (own := RX1) (cd := am_cdT' tX1_need) (rf := am_rfL rfX1) (ini := false) rfl (by decide +kernel) rfl (by decide) dX1_need rfX1_ok (Nat.le_of_ble_eq_true rfl) ?_
  intro V hV
  have hP : (fun (r : Option Value) (w : am_W) => r = none ∧ w = (wX1 res)) none (wX1 res) := ⟨rfl, rfl⟩
  show V (wX1 σ) 0 [(0, .ref 0), (1, .int a1)] []
  unfold X1_need at h
  refine hV.run 2 [] (ws' := wX1 σ) (pc' := 4) (ls' := [(0, .ref 0), (1, .int a1)]) (st' := [.ref 1]) (ps := []) rfl trivial ?_
  refine hV.cBi 1 5 [] (as := []) (rest := []) (st := [.ref 1]) (ws2 := wX1 σ) (pc2 := 7) kX1_52 (c_X5_sort l (am_sub σ 1)) rfl rfl rfl rfl rfl rfl rfl rfl rfl rfl rfl rfl rfl rfl ?_
  by_cases c1 : (X5_sort (am_sub σ 1)) = a1
  · rw [if_pos c1] at h
    refine hV.run 4 [0] (ws' := wX1 σ) (pc' := 15) (ls' := [(0, .ref 0), (1, .int a1)]) (st' := [.ref 1]) (ps := [(X5_sort (am_sub σ 1)) = a1]) rfl ⟨c1, trivial⟩ ?_
    obtain ⟨q2, hq2, h⟩ := am_bind h
    refine hV.cBv 1 5 [] (as := []) (rest := []) (st := [.ref 1]) (ws2 := wX1 (am_put σ 1 5 q2)) (pc2 := 18) kX1_78 (c_X5_advance l (am_sub σ 1) q2 hq2) rfl rfl rfl rfl rfl rfl rfl rfl rfl rfl rfl rfl rfl rfl ?_
    refine hV.run 1 [] (ws' := wX1 (am_put σ 1 5 q2)) (pc' := 26) (ls' := [(0, .ref 0), (1, .int a1)]) (st' := []) (ps := []) rfl trivial ?_
    cases h
    exact hV.rv rfl rfl rfl hP
  · rw [if_neg c1] at h
    refine hV.run 4 [1] (ws' := wX1 σ) (pc' := 23) (ls' := [(0, .ref 0), (1, .int a1)]) (st' := [.int 1, .ref 0]) (ps := [¬ (X5_sort (am_sub σ 1)) = a1]) rfl ⟨c1, trivial⟩ ?_
    obtain ⟨q3, hq3, h⟩ := am_bind h
    refine hV.cOv (as := [.int 1]) (rest := []) (st := [.int 1, .ref 0]) (ws2 := wX1 q3) (pc2 := 26) kX1_65 (c_X1_refuse l σ 1 q3 hq3) rfl rfl rfl rfl rfl rfl rfl rfl rfl ?_
    cases h
    exact hV.rv rfl rfl rfl hP

def X1_variable_J57 (σ : am_M) (s0 : Int32) : Option am_M := (X1_refuse σ s0).bind (fun q1 => some q1)
set_option maxRecDepth 100000 in
set_option maxHeartbeats 4000000 in
theorem p_X1_variable_J57 {l : Launch} {Post : Option Value → am_W → Prop} {V : am_VT} (hV : am_B l RX1 false 3 (am_cdT' tX1_variable) (am_rfL rfX1) none Post 17 V) (res : am_M) (hP : Post none (wX1 res)) (σ : am_M) (s0 : Int32) (h : X1_variable_J57 σ s0 = some res) : V (wX1 σ) 57 [] [.int s0, .ref 0] := by
  unfold X1_variable_J57 at h
  obtain ⟨q1, hq1, h⟩ := am_bind h
  refine hV.cOv (as := [.int s0]) (rest := []) (st := [.int s0, .ref 0]) (ws2 := wX1 q1) (pc2 := 60) kX1_65 (c_X1_refuse l σ s0 q1 hq1) rfl rfl rfl rfl rfl rfl rfl rfl rfl ?_
  cases h
  exact hV.rv rfl rfl rfl hP
def X1_variable_J45 (σ : am_M) (l2 : Int32) : Option am_M := if 26 < l2 then (X1_variable_J57 σ 1) else (X1_variable_J57 σ 3)
set_option maxRecDepth 100000 in
set_option maxHeartbeats 4000000 in
theorem p_X1_variable_J45 {l : Launch} {Post : Option Value → am_W → Prop} {V : am_VT} (hV : am_B l RX1 false 3 (am_cdT' tX1_variable) (am_rfL rfX1) none Post 17 V) (res : am_M) (hP : Post none (wX1 res)) (σ : am_M) (l2 : Int32) (h : X1_variable_J45 σ l2 = some res) : V (wX1 σ) 45 [(0, .ref 0), (2, .int l2)] [] := by
  unfold X1_variable_J45 at h
  by_cases c1 : 26 < l2
  · rw [if_pos c1] at h
    refine hV.run 5 [1] (ws' := wX1 σ) (pc' := 57) (ls' := [(0, .ref 0), (2, .int l2)]) (st' := [.int 1, .ref 0]) (ps := [26 < l2]) rfl ⟨c1, trivial⟩ ?_
    refine hV.pick [] (ls' := []) rfl ?_
    exact p_X1_variable_J57 hV res hP σ 1 h
  · rw [if_neg c1] at h
    refine hV.run 6 [0] (ws' := wX1 σ) (pc' := 57) (ls' := [(0, .ref 0), (2, .int l2)]) (st' := [.int 3, .ref 0]) (ps := [¬ 26 < l2]) rfl ⟨c1, trivial⟩ ?_
    refine hV.pick [] (ls' := []) rfl ?_
    exact p_X1_variable_J57 hV res hP σ 3 h
def X1_variable (σ : am_M) (a1 : Int32) : Option am_M := if (X5_sort (am_sub σ 1)) < 11 then (X1_variable_J45 σ (X5_sort (am_sub σ 1))) else (if 14 < (X5_sort (am_sub σ 1)) then (X1_variable_J45 σ (X5_sort (am_sub σ 1))) else (X5_advance (am_sub (sC σ 10 (jput 40 (σ 10) a1 ((X5_sort (am_sub σ 1)) - 11))) 1)).bind (fun q3 => some (am_put (sC σ 10 (jput 40 (σ 10) a1 ((X5_sort (am_sub σ 1)) - 11))) 1 5 q3)))
set_option maxRecDepth 100000 in
set_option maxHeartbeats 4000000 in
theorem c_X1_variable (l : Launch) (σ : am_M) (a1 : Int32) (res : am_M) (h : X1_variable σ a1 = some res) : am_Con l yX1_variable cX1_variable 3 none 3 [.ref 0, .int a1] (wX1 σ) (fun (r : Option Value) (w : am_W) => r = none ∧ w = (wX1 res)) := by
  refine am_metn (n0 := 17) (own := RX1) (cd := am_cdT' tX1_variable) (rf := am_rfL rfX1) (ini := false) rfl (by decide +kernel) rfl (by decide) dX1_variable rfX1_ok (Nat.le_of_ble_eq_true rfl) ?_
  intro V hV
  have hP : (fun (r : Option Value) (w : am_W) => r = none ∧ w = (wX1 res)) none (wX1 res) := ⟨rfl, rfl⟩
  show V (wX1 σ) 0 [(0, .ref 0), (1, .int a1)] []
  unfold X1_variable at h
  refine hV.run 2 [] (ws' := wX1 σ) (pc' := 4) (ls' := [(0, .ref 0), (1, .int a1)]) (st' := [.ref 1]) (ps := []) rfl trivial ?_
  refine hV.cBi 1 5 [] (as := []) (rest := []) (st := [.ref 1]) (ws2 := wX1 σ) (pc2 := 7) kX1_52 (c_X5_sort l (am_sub σ 1)) rfl rfl rfl rfl rfl rfl rfl rfl rfl rfl rfl rfl rfl rfl ?_
  by_cases c1 : (X5_sort (am_sub σ 1)) < 11
  · rw [if_pos c1] at h
    refine hV.run 4 [1] (ws' := wX1 σ) (pc' := 45) (ls' := [(2, .int (X5_sort (am_sub σ 1))), (0, .ref 0), (1, .int a1)]) (st' := []) (ps := [(X5_sort (am_sub σ 1)) < 11]) rfl ⟨c1, trivial⟩ ?_
    refine hV.pick [1, 0] (ls' := [(0, .ref 0), (2, .int (X5_sort (am_sub σ 1)))]) rfl ?_
    exact p_X1_variable_J45 hV res hP σ (X5_sort (am_sub σ 1)) h
  · rw [if_neg c1] at h
    by_cases c2 : 14 < (X5_sort (am_sub σ 1))
    · rw [if_pos c2] at h
      refine hV.run 7 [0, 1] (ws' := wX1 σ) (pc' := 45) (ls' := [(2, .int (X5_sort (am_sub σ 1))), (0, .ref 0), (1, .int a1)]) (st' := []) (ps := [¬ (X5_sort (am_sub σ 1)) < 11, 14 < (X5_sort (am_sub σ 1))]) rfl ⟨c1, c2, trivial⟩ ?_
      refine hV.pick [1, 0] (ls' := [(0, .ref 0), (2, .int (X5_sort (am_sub σ 1)))]) rfl ?_
      exact p_X1_variable_J45 hV res hP σ (X5_sort (am_sub σ 1)) h
    · rw [if_neg c2] at h
      refine hV.run 14 [0, 0] (ws' := wX1 σ) (pc' := 32) (ls' := [(2, .int (X5_sort (am_sub σ 1))), (0, .ref 0), (1, .int a1)]) (st' := [.int ((X5_sort (am_sub σ 1)) - 11), .int a1, .ref 10]) (ps := [¬ (X5_sort (am_sub σ 1)) < 11, ¬ 14 < (X5_sort (am_sub σ 1))]) rfl ⟨c1, c2, trivial⟩ ?_
      refine hV.cSv (as := [.ref 0, .int a1, .int ((X5_sort (am_sub σ 1)) - 11)]) (js := [10]) (rest := []) (st := [.int ((X5_sort (am_sub σ 1)) - 11), .int a1, .ref 10]) (ws2 := wX1 (sC σ 10 (jput 40 (σ 10) a1 ((X5_sort (am_sub σ 1)) - 11)))) (pc2 := 35) kX1_104 (c_put l 1 40 (by decide) (σ 10) a1 ((X5_sort (am_sub σ 1)) - 11)) rfl rfl rfl rfl rfl rfl rfl rfl rfl rfl ?_
      refine hV.run 2 [] (ws' := wX1 (sC σ 10 (jput 40 (σ 10) a1 ((X5_sort (am_sub σ 1)) - 11)))) (pc' := 39) (ls' := [(2, .int (X5_sort (am_sub σ 1))), (0, .ref 0), (1, .int a1)]) (st' := [.ref 1]) (ps := []) rfl trivial ?_
      obtain ⟨q3, hq3, h⟩ := am_bind h
      refine hV.cBv 1 5 [] (as := []) (rest := []) (st := [.ref 1]) (ws2 := wX1 (am_put (sC σ 10 (jput 40 (σ 10) a1 ((X5_sort (am_sub σ 1)) - 11))) 1 5 q3)) (pc2 := 42) kX1_78 (c_X5_advance l (am_sub (sC σ 10 (jput 40 (σ 10) a1 ((X5_sort (am_sub σ 1)) - 11))) 1) q3 hq3) rfl rfl rfl rfl rfl rfl rfl rfl rfl rfl rfl rfl rfl rfl ?_
      refine hV.run 1 [] (ws' := wX1 (am_put (sC σ 10 (jput 40 (σ 10) a1 ((X5_sort (am_sub σ 1)) - 11))) 1 5 q3)) (pc' := 60) (ls' := [(2, .int (X5_sort (am_sub σ 1))), (0, .ref 0), (1, .int a1)]) (st' := []) (ps := []) rfl trivial ?_
      cases h
      exact hV.rv rfl rfl rfl hP

def X1_bound_J80 (σ : am_M) : Option am_M := (X1_refuse σ 2).bind (fun q1 => some q1)
set_option maxRecDepth 100000 in
set_option maxHeartbeats 4000000 in
theorem p_X1_bound_J80 {l : Launch} {Post : Option Value → am_W → Prop} {V : am_VT} (hV : am_B l RX1 false 3 (am_cdT' tX1_bound) (am_rfL rfX1) none Post 17 V) (res : am_M) (hP : Post none (wX1 res)) (σ : am_M) (h : X1_bound_J80 σ = some res) : V (wX1 σ) 80 [(0, .ref 0)] [] := by
  unfold X1_bound_J80 at h
  refine hV.run 2 [] (ws' := wX1 σ) (pc' := 82) (ls' := [(0, .ref 0)]) (st' := [.int 2, .ref 0]) (ps := []) rfl trivial ?_
  obtain ⟨q1, hq1, h⟩ := am_bind h
  refine hV.cOv (as := [.int 2]) (rest := []) (st := [.int 2, .ref 0]) (ws2 := wX1 q1) (pc2 := 85) kX1_65 (c_X1_refuse l σ 2 q1 hq1) rfl rfl rfl rfl rfl rfl rfl rfl rfl ?_
  refine hV.run 1 [] (ws' := wX1 q1) (pc' := 108) (ls' := [(0, .ref 0)]) (st' := []) (ps := []) rfl trivial ?_
  cases h
  exact hV.rv rfl rfl rfl hP
def X1_bound (σ : am_M) (a1 : Int32) (a2 : Int32) (a3 : Int32) : Option am_M := if (σ 0 2) = 0 then (if (X5_sort (am_sub (sC σ 11 (jput 40 (σ 11) a1 a3)) 1)) = a2 then (X5_advance (am_sub (sC σ 11 (jput 40 (σ 11) a1 a3)) 1)).bind (fun q3 => if (X5_sort (am_sub (am_put (sC σ 11 (jput 40 (σ 11) a1 a3)) 1 5 q3) 1)) = 27 then (if (X5_number (am_sub (am_put (sC σ 11 (jput 40 (σ 11) a1 a3)) 1 5 q3) 1)) < 1 then (X1_bound_J80 (am_put (sC σ 11 (jput 40 (σ 11) a1 a3)) 1 5 q3)) else (if (X5_number (am_sub (am_put (sC σ 11 (jput 40 (σ 11) a1 a3)) 1 5 q3) 1)) ≤ 99 then (X5_advance (am_sub (sC (am_put (sC σ 11 (jput 40 (σ 11) a1 a3)) 1 5 q3) 11 (jput 40 ((am_put (sC σ 11 (jput 40 (σ 11) a1 a3)) 1 5 q3) 11) a1 (X5_number (am_sub (am_put (sC σ 11 (jput 40 (σ 11) a1 a3)) 1 5 q3) 1)))) 1)).bind (fun q7 => some (am_put (sC (am_put (sC σ 11 (jput 40 (σ 11) a1 a3)) 1 5 q3) 11 (jput 40 ((am_put (sC σ 11 (jput 40 (σ 11) a1 a3)) 1 5 q3) 11) a1 (X5_number (am_sub (am_put (sC σ 11 (jput 40 (σ 11) a1 a3)) 1 5 q3) 1)))) 1 5 q7)) else (X1_bound_J80 (am_put (sC σ 11 (jput 40 (σ 11) a1 a3)) 1 5 q3)))) else (X1_refuse (am_put (sC σ 11 (jput 40 (σ 11) a1 a3)) 1 5 q3) 1).bind (fun q8 => some q8)) else (some (sC σ 11 (jput 40 (σ 11) a1 a3)))) else (some (sC σ 11 (jput 40 (σ 11) a1 a3)))
set_option maxRecDepth 100000 in
set_option maxHeartbeats 4000000 in
theorem c_X1_bound (l : Launch) (σ : am_M) (a1 : Int32) (a2 : Int32) (a3 : Int32) (res : am_M) (h : X1_bound σ a1 a2 a3 = some res) : am_Con l yX1_bound cX1_bound 5 none 3 [.ref 0, .int a1, .int a2, .int a3] (wX1 σ) (fun (r : Option Value) (w : am_W) => r = none ∧ w = (wX1 res)) := by
  refine am_metn (n0 := 17) (own := RX1) (cd := am_cdT' tX1_bound) (rf := am_rfL rfX1) (ini := false) rfl (by decide +kernel) rfl (by decide) dX1_bound rfX1_ok (Nat.le_of_ble_eq_true rfl) ?_
  intro V hV
  have hP : (fun (r : Option Value) (w : am_W) => r = none ∧ w = (wX1 res)) none (wX1 res) := ⟨rfl, rfl⟩
  show V (wX1 σ) 0 [(0, .ref 0), (1, .int a1), (2, .int a2), (3, .int a3)] []
  unfold X1_bound at h
  refine hV.run 5 [] (ws' := wX1 σ) (pc' := 9) (ls' := [(0, .ref 0), (1, .int a1), (2, .int a2), (3, .int a3)]) (st' := [.int a3, .int a1, .ref 11]) (ps := []) rfl trivial ?_
  refine hV.cSv (as := [.ref 0, .int a1, .int a3]) (js := [11]) (rest := []) (st := [.int a3, .int a1, .ref 11]) (ws2 := wX1 (sC σ 11 (jput 40 (σ 11) a1 a3))) (pc2 := 12) kX1_104 (c_put l 1 40 (by decide) (σ 11) a1 a3) rfl rfl rfl rfl rfl rfl rfl rfl rfl rfl ?_
  by_cases c1 : (σ 0 2) = 0
  · rw [if_pos c1] at h
    refine hV.run 5 [0] (ws' := wX1 (sC σ 11 (jput 40 (σ 11) a1 a3))) (pc' := 23) (ls' := [(0, .ref 0), (1, .int a1), (2, .int a2), (3, .int a3)]) (st' := [.ref 1]) (ps := [(σ 0 2) = 0]) rfl ⟨c1, trivial⟩ ?_
    refine hV.cBi 1 5 [] (as := []) (rest := []) (st := [.ref 1]) (ws2 := wX1 (sC σ 11 (jput 40 (σ 11) a1 a3))) (pc2 := 26) kX1_52 (c_X5_sort l (am_sub (sC σ 11 (jput 40 (σ 11) a1 a3)) 1)) rfl rfl rfl rfl rfl rfl rfl rfl rfl rfl rfl rfl rfl rfl ?_
    by_cases c2 : (X5_sort (am_sub (sC σ 11 (jput 40 (σ 11) a1 a3)) 1)) = a2
    · rw [if_pos c2] at h
      refine hV.run 4 [1] (ws' := wX1 (sC σ 11 (jput 40 (σ 11) a1 a3))) (pc' := 35) (ls' := [(0, .ref 0), (1, .int a1), (2, .int a2), (3, .int a3)]) (st' := [.ref 1]) (ps := [(X5_sort (am_sub (sC σ 11 (jput 40 (σ 11) a1 a3)) 1)) = a2]) rfl ⟨c2, trivial⟩ ?_
      obtain ⟨q3, hq3, h⟩ := am_bind h
      refine hV.cBv 1 5 [] (as := []) (rest := []) (st := [.ref 1]) (ws2 := wX1 (am_put (sC σ 11 (jput 40 (σ 11) a1 a3)) 1 5 q3)) (pc2 := 38) kX1_78 (c_X5_advance l (am_sub (sC σ 11 (jput 40 (σ 11) a1 a3)) 1) q3 hq3) rfl rfl rfl rfl rfl rfl rfl rfl rfl rfl rfl rfl rfl rfl ?_
      refine hV.run 2 [] (ws' := wX1 (am_put (sC σ 11 (jput 40 (σ 11) a1 a3)) 1 5 q3)) (pc' := 42) (ls' := [(0, .ref 0), (1, .int a1), (2, .int a2), (3, .int a3)]) (st' := [.ref 1]) (ps := []) rfl trivial ?_
      refine hV.cBi 1 5 [] (as := []) (rest := []) (st := [.ref 1]) (ws2 := wX1 (am_put (sC σ 11 (jput 40 (σ 11) a1 a3)) 1 5 q3)) (pc2 := 45) kX1_127 (c_X5_number l (am_sub (am_put (sC σ 11 (jput 40 (σ 11) a1 a3)) 1 5 q3) 1)) rfl rfl rfl rfl rfl rfl rfl rfl rfl rfl rfl rfl rfl rfl ?_
      refine hV.run 3 [] (ws' := wX1 (am_put (sC σ 11 (jput 40 (σ 11) a1 a3)) 1 5 q3)) (pc' := 51) (ls' := [(4, .int (X5_number (am_sub (am_put (sC σ 11 (jput 40 (σ 11) a1 a3)) 1 5 q3) 1))), (0, .ref 0), (1, .int a1), (2, .int a2), (3, .int a3)]) (st' := [.ref 1]) (ps := []) rfl trivial ?_
      refine hV.cBi 1 5 [] (as := []) (rest := []) (st := [.ref 1]) (ws2 := wX1 (am_put (sC σ 11 (jput 40 (σ 11) a1 a3)) 1 5 q3)) (pc2 := 54) kX1_52 (c_X5_sort l (am_sub (am_put (sC σ 11 (jput 40 (σ 11) a1 a3)) 1 5 q3) 1)) rfl rfl rfl rfl rfl rfl rfl rfl rfl rfl rfl rfl rfl rfl ?_
      by_cases c4 : (X5_sort (am_sub (am_put (sC σ 11 (jput 40 (σ 11) a1 a3)) 1 5 q3) 1)) = 27
      · rw [if_pos c4] at h
        by_cases c5 : (X5_number (am_sub (am_put (sC σ 11 (jput 40 (σ 11) a1 a3)) 1 5 q3) 1)) < 1
        · rw [if_pos c5] at h
          refine hV.run 5 [1, 1] (ws' := wX1 (am_put (sC σ 11 (jput 40 (σ 11) a1 a3)) 1 5 q3)) (pc' := 80) (ls' := [(4, .int (X5_number (am_sub (am_put (sC σ 11 (jput 40 (σ 11) a1 a3)) 1 5 q3) 1))), (0, .ref 0), (1, .int a1), (2, .int a2), (3, .int a3)]) (st' := []) (ps := [(X5_sort (am_sub (am_put (sC σ 11 (jput 40 (σ 11) a1 a3)) 1 5 q3) 1)) = 27, (X5_number (am_sub (am_put (sC σ 11 (jput 40 (σ 11) a1 a3)) 1 5 q3) 1)) < 1]) rfl ⟨c4, c5, trivial⟩ ?_
          refine hV.pick [1] (ls' := [(0, .ref 0)]) rfl ?_
          exact p_X1_bound_J80 hV res hP (am_put (sC σ 11 (jput 40 (σ 11) a1 a3)) 1 5 q3) h
        · rw [if_neg c5] at h
          by_cases c6 : (X5_number (am_sub (am_put (sC σ 11 (jput 40 (σ 11) a1 a3)) 1 5 q3) 1)) ≤ 99
          · rw [if_pos c6] at h
            refine hV.run 13 [1, 0, 1] (ws' := wX1 (am_put (sC σ 11 (jput 40 (σ 11) a1 a3)) 1 5 q3)) (pc' := 98) (ls' := [(4, .int (X5_number (am_sub (am_put (sC σ 11 (jput 40 (σ 11) a1 a3)) 1 5 q3) 1))), (0, .ref 0), (1, .int a1), (2, .int a2), (3, .int a3)]) (st' := [.int (X5_number (am_sub (am_put (sC σ 11 (jput 40 (σ 11) a1 a3)) 1 5 q3) 1)), .int a1, .ref 11]) (ps := [(X5_sort (am_sub (am_put (sC σ 11 (jput 40 (σ 11) a1 a3)) 1 5 q3) 1)) = 27, ¬ (X5_number (am_sub (am_put (sC σ 11 (jput 40 (σ 11) a1 a3)) 1 5 q3) 1)) < 1, (X5_number (am_sub (am_put (sC σ 11 (jput 40 (σ 11) a1 a3)) 1 5 q3) 1)) ≤ 99]) rfl ⟨c4, c5, c6, trivial⟩ ?_
            refine hV.cSv (as := [.ref 0, .int a1, .int (X5_number (am_sub (am_put (sC σ 11 (jput 40 (σ 11) a1 a3)) 1 5 q3) 1))]) (js := [11]) (rest := []) (st := [.int (X5_number (am_sub (am_put (sC σ 11 (jput 40 (σ 11) a1 a3)) 1 5 q3) 1)), .int a1, .ref 11]) (ws2 := wX1 (sC (am_put (sC σ 11 (jput 40 (σ 11) a1 a3)) 1 5 q3) 11 (jput 40 ((am_put (sC σ 11 (jput 40 (σ 11) a1 a3)) 1 5 q3) 11) a1 (X5_number (am_sub (am_put (sC σ 11 (jput 40 (σ 11) a1 a3)) 1 5 q3) 1))))) (pc2 := 101) kX1_104 (c_put l 1 40 (by decide) ((am_put (sC σ 11 (jput 40 (σ 11) a1 a3)) 1 5 q3) 11) a1 (X5_number (am_sub (am_put (sC σ 11 (jput 40 (σ 11) a1 a3)) 1 5 q3) 1))) rfl rfl rfl rfl rfl rfl rfl rfl rfl rfl ?_
            refine hV.run 2 [] (ws' := wX1 (sC (am_put (sC σ 11 (jput 40 (σ 11) a1 a3)) 1 5 q3) 11 (jput 40 ((am_put (sC σ 11 (jput 40 (σ 11) a1 a3)) 1 5 q3) 11) a1 (X5_number (am_sub (am_put (sC σ 11 (jput 40 (σ 11) a1 a3)) 1 5 q3) 1))))) (pc' := 105) (ls' := [(4, .int (X5_number (am_sub (am_put (sC σ 11 (jput 40 (σ 11) a1 a3)) 1 5 q3) 1))), (0, .ref 0), (1, .int a1), (2, .int a2), (3, .int a3)]) (st' := [.ref 1]) (ps := []) rfl trivial ?_
            obtain ⟨q7, hq7, h⟩ := am_bind h
            refine hV.cBv 1 5 [] (as := []) (rest := []) (st := [.ref 1]) (ws2 := wX1 (am_put (sC (am_put (sC σ 11 (jput 40 (σ 11) a1 a3)) 1 5 q3) 11 (jput 40 ((am_put (sC σ 11 (jput 40 (σ 11) a1 a3)) 1 5 q3) 11) a1 (X5_number (am_sub (am_put (sC σ 11 (jput 40 (σ 11) a1 a3)) 1 5 q3) 1)))) 1 5 q7)) (pc2 := 108) kX1_78 (c_X5_advance l (am_sub (sC (am_put (sC σ 11 (jput 40 (σ 11) a1 a3)) 1 5 q3) 11 (jput 40 ((am_put (sC σ 11 (jput 40 (σ 11) a1 a3)) 1 5 q3) 11) a1 (X5_number (am_sub (am_put (sC σ 11 (jput 40 (σ 11) a1 a3)) 1 5 q3) 1)))) 1) q7 hq7) rfl rfl rfl rfl rfl rfl rfl rfl rfl rfl rfl rfl rfl rfl ?_
            cases h
            exact hV.rv rfl rfl rfl hP
          · rw [if_neg c6] at h
            refine hV.run 8 [1, 0, 0] (ws' := wX1 (am_put (sC σ 11 (jput 40 (σ 11) a1 a3)) 1 5 q3)) (pc' := 80) (ls' := [(4, .int (X5_number (am_sub (am_put (sC σ 11 (jput 40 (σ 11) a1 a3)) 1 5 q3) 1))), (0, .ref 0), (1, .int a1), (2, .int a2), (3, .int a3)]) (st' := []) (ps := [(X5_sort (am_sub (am_put (sC σ 11 (jput 40 (σ 11) a1 a3)) 1 5 q3) 1)) = 27, ¬ (X5_number (am_sub (am_put (sC σ 11 (jput 40 (σ 11) a1 a3)) 1 5 q3) 1)) < 1, ¬ (X5_number (am_sub (am_put (sC σ 11 (jput 40 (σ 11) a1 a3)) 1 5 q3) 1)) ≤ 99]) rfl ⟨c4, c5, c6, trivial⟩ ?_
            refine hV.pick [1] (ls' := [(0, .ref 0)]) rfl ?_
            exact p_X1_bound_J80 hV res hP (am_put (sC σ 11 (jput 40 (σ 11) a1 a3)) 1 5 q3) h
      · rw [if_neg c4] at h
        refine hV.run 4 [0] (ws' := wX1 (am_put (sC σ 11 (jput 40 (σ 11) a1 a3)) 1 5 q3)) (pc' := 61) (ls' := [(4, .int (X5_number (am_sub (am_put (sC σ 11 (jput 40 (σ 11) a1 a3)) 1 5 q3) 1))), (0, .ref 0), (1, .int a1), (2, .int a2), (3, .int a3)]) (st' := [.int 1, .ref 0]) (ps := [¬ (X5_sort (am_sub (am_put (sC σ 11 (jput 40 (σ 11) a1 a3)) 1 5 q3) 1)) = 27]) rfl ⟨c4, trivial⟩ ?_
        obtain ⟨q8, hq8, h⟩ := am_bind h
        refine hV.cOv (as := [.int 1]) (rest := []) (st := [.int 1, .ref 0]) (ws2 := wX1 q8) (pc2 := 64) kX1_65 (c_X1_refuse l (am_put (sC σ 11 (jput 40 (σ 11) a1 a3)) 1 5 q3) 1 q8 hq8) rfl rfl rfl rfl rfl rfl rfl rfl rfl ?_
        refine hV.run 1 [] (ws' := wX1 q8) (pc' := 108) (ls' := [(4, .int (X5_number (am_sub (am_put (sC σ 11 (jput 40 (σ 11) a1 a3)) 1 5 q3) 1))), (0, .ref 0), (1, .int a1), (2, .int a2), (3, .int a3)]) (st' := []) (ps := []) rfl trivial ?_
        cases h
        exact hV.rv rfl rfl rfl hP
    · rw [if_neg c2] at h
      refine hV.run 2 [0] (ws' := wX1 (sC σ 11 (jput 40 (σ 11) a1 a3))) (pc' := 30) (ls' := [(0, .ref 0), (1, .int a1), (2, .int a2), (3, .int a3)]) (st' := []) (ps := [¬ (X5_sort (am_sub (sC σ 11 (jput 40 (σ 11) a1 a3)) 1)) = a2]) rfl ⟨c2, trivial⟩ ?_
      cases h
      exact hV.rv rfl rfl rfl hP
  · rw [if_neg c1] at h
    refine hV.run 3 [1] (ws' := wX1 (sC σ 11 (jput 40 (σ 11) a1 a3))) (pc' := 30) (ls' := [(0, .ref 0), (1, .int a1), (2, .int a2), (3, .int a3)]) (st' := []) (ps := [¬ (σ 0 2) = 0]) rfl ⟨c1, trivial⟩ ?_
    cases h
    exact hV.rv rfl rfl rfl hP

def X1_part_J178 (σ : am_M) (l1 : Int32) : Option (Bool × am_M) := (X5_advance (am_sub σ 1)).bind (fun q1 => if l1 = 140 then (some (true, am_put σ 1 5 q1)) else (some (false, am_put σ 1 5 q1)))
set_option maxRecDepth 100000 in
set_option maxHeartbeats 4000000 in
theorem p_X1_part_J178 {l : Launch} {Post : Option Value → am_W → Prop} {V : am_VT} (hV : am_B l RX1 false 3 (am_cdT' tX1_part) (am_rfL rfX1) (some .boolean) Post 17 V) (res : (Bool × am_M)) (hP : Post (some (.int (b2i res.1))) (wX1 res.2)) (σ : am_M) (l1 : Int32) (h : X1_part_J178 σ l1 = some res) : V (wX1 σ) 178 [(0, .ref 0), (1, .int l1)] [] := by
  unfold X1_part_J178 at h
  refine hV.run 2 [] (ws' := wX1 σ) (pc' := 182) (ls' := [(0, .ref 0), (1, .int l1)]) (st' := [.ref 1]) (ps := []) rfl trivial ?_
  obtain ⟨q1, hq1, h⟩ := am_bind h
  refine hV.cBv 1 5 [] (as := []) (rest := []) (st := [.ref 1]) (ws2 := wX1 (am_put σ 1 5 q1)) (pc2 := 185) kX1_78 (c_X5_advance l (am_sub σ 1) q1 hq1) rfl rfl rfl rfl rfl rfl rfl rfl rfl rfl rfl rfl rfl rfl ?_
  by_cases c2 : l1 = 140
  · rw [if_pos c2] at h
    refine hV.run 5 [0] (ws' := wX1 (am_put σ 1 5 q1)) (pc' := 197) (ls' := [(0, .ref 0), (1, .int l1)]) (st' := [.int 1]) (ps := [l1 = 140]) rfl ⟨c2, trivial⟩ ?_
    cases h
    exact hV.rz rfl rfl rfl (Or.inr rfl) hP
  · rw [if_neg c2] at h
    refine hV.run 4 [1] (ws' := wX1 (am_put σ 1 5 q1)) (pc' := 197) (ls' := [(0, .ref 0), (1, .int l1)]) (st' := [.int 0]) (ps := [¬ l1 = 140]) rfl ⟨c2, trivial⟩ ?_
    cases h
    exact hV.rz rfl rfl rfl (Or.inl rfl) hP
def X1_part_J55 (σ : am_M) (l1 : Int32) : Option (Bool × am_M) := (X1_refuse σ 2).bind (fun q1 => X1_part_J178 q1 l1)
set_option maxRecDepth 100000 in
set_option maxHeartbeats 4000000 in
theorem p_X1_part_J55 {l : Launch} {Post : Option Value → am_W → Prop} {V : am_VT} (hV : am_B l RX1 false 3 (am_cdT' tX1_part) (am_rfL rfX1) (some .boolean) Post 17 V) (res : (Bool × am_M)) (hP : Post (some (.int (b2i res.1))) (wX1 res.2)) (σ : am_M) (l1 : Int32) (h : X1_part_J55 σ l1 = some res) : V (wX1 σ) 55 [(0, .ref 0), (1, .int l1)] [] := by
  unfold X1_part_J55 at h
  refine hV.run 2 [] (ws' := wX1 σ) (pc' := 57) (ls' := [(0, .ref 0), (1, .int l1)]) (st' := [.int 2, .ref 0]) (ps := []) rfl trivial ?_
  obtain ⟨q1, hq1, h⟩ := am_bind h
  refine hV.cOv (as := [.int 2]) (rest := []) (st := [.int 2, .ref 0]) (ws2 := wX1 q1) (pc2 := 60) kX1_65 (c_X1_refuse l σ 2 q1 hq1) rfl rfl rfl rfl rfl rfl rfl rfl rfl ?_
  refine hV.run 1 [] (ws' := wX1 q1) (pc' := 178) (ls' := [(0, .ref 0), (1, .int l1)]) (st' := []) (ps := []) rfl trivial ?_
  exact p_X1_part_J178 hV res hP q1 l1 h
def X1_part_J173 (σ : am_M) (l1 : Int32) : Option (Bool × am_M) := (X1_refuse σ 3).bind (fun q1 => X1_part_J178 q1 l1)
set_option maxRecDepth 100000 in
set_option maxHeartbeats 4000000 in
theorem p_X1_part_J173 {l : Launch} {Post : Option Value → am_W → Prop} {V : am_VT} (hV : am_B l RX1 false 3 (am_cdT' tX1_part) (am_rfL rfX1) (some .boolean) Post 17 V) (res : (Bool × am_M)) (hP : Post (some (.int (b2i res.1))) (wX1 res.2)) (σ : am_M) (l1 : Int32) (h : X1_part_J173 σ l1 = some res) : V (wX1 σ) 173 [(0, .ref 0), (1, .int l1)] [] := by
  unfold X1_part_J173 at h
  refine hV.run 2 [] (ws' := wX1 σ) (pc' := 175) (ls' := [(0, .ref 0), (1, .int l1)]) (st' := [.int 3, .ref 0]) (ps := []) rfl trivial ?_
  obtain ⟨q1, hq1, h⟩ := am_bind h
  refine hV.cOv (as := [.int 3]) (rest := []) (st := [.int 3, .ref 0]) (ws2 := wX1 q1) (pc2 := 178) kX1_65 (c_X1_refuse l σ 3 q1 hq1) rfl rfl rfl rfl rfl rfl rfl rfl rfl ?_
  exact p_X1_part_J178 hV res hP q1 l1 h
def X1_part_J35 (σ : am_M) (l1 : Int32) : Option (Bool × am_M) := if 7 ≤ (σ 0 9) then (X1_part_J55 σ l1) else (if (X5_number (am_sub σ 1)) = (-1) then (X1_part_J55 σ l1) else (if l1 = 27 then (X3_emit (am_sub σ 6) (X5_number (am_sub σ 1))).bind (fun q4 => X1_part_J178 (am_put σ 6 8 q4) l1) else (if l1 = 140 then (X1_part_J178 (sC (sC σ 0 (am_u (am_u (am_u (σ 0) 8 ((σ 0 8) + 1)) 9 ((σ 0 9) + 1)) 10 ((σ 0 10) &&& ((1 <<< (((σ 0 9) + 1) &&& 31)) ^^^ (-1))))) 16 (jput 40 (σ 16) (σ 0 8) 0)) l1) else (if l1 < 11 then (X1_part_J173 σ l1) else (if 17 < l1 then (X1_part_J173 σ l1) else (X3_emit (am_sub σ 6) ((-1) - (l1 - 11))).bind (fun q8 => X1_part_J178 (am_put σ 6 8 q8) l1))))))
set_option maxRecDepth 100000 in
set_option maxHeartbeats 4000000 in
theorem p_X1_part_J35 {l : Launch} {Post : Option Value → am_W → Prop} {V : am_VT} (hV : am_B l RX1 false 3 (am_cdT' tX1_part) (am_rfL rfX1) (some .boolean) Post 17 V) (res : (Bool × am_M)) (hP : Post (some (.int (b2i res.1))) (wX1 res.2)) (σ : am_M) (l1 : Int32) (h : X1_part_J35 σ l1 = some res) : V (wX1 σ) 35 [(0, .ref 0), (1, .int l1)] [] := by
  unfold X1_part_J35 at h
  by_cases c1 : 7 ≤ (σ 0 9)
  · rw [if_pos c1] at h
    refine hV.run 4 [1] (ws' := wX1 σ) (pc' := 55) (ls' := [(0, .ref 0), (1, .int l1)]) (st' := []) (ps := [7 ≤ (σ 0 9)]) rfl ⟨c1, trivial⟩ ?_
    exact p_X1_part_J55 hV res hP σ l1 h
  · rw [if_neg c1] at h
    refine hV.run 6 [0] (ws' := wX1 σ) (pc' := 48) (ls' := [(0, .ref 0), (1, .int l1)]) (st' := [.ref 1]) (ps := [¬ 7 ≤ (σ 0 9)]) rfl ⟨c1, trivial⟩ ?_
    refine hV.cBi 1 5 [] (as := []) (rest := []) (st := [.ref 1]) (ws2 := wX1 σ) (pc2 := 51) kX1_127 (c_X5_number l (am_sub σ 1)) rfl rfl rfl rfl rfl rfl rfl rfl rfl rfl rfl rfl rfl rfl ?_
    by_cases c2 : (X5_number (am_sub σ 1)) = (-1)
    · rw [if_pos c2] at h
      refine hV.run 2 [0] (ws' := wX1 σ) (pc' := 55) (ls' := [(0, .ref 0), (1, .int l1)]) (st' := []) (ps := [(X5_number (am_sub σ 1)) = (-1)]) rfl ⟨c2, trivial⟩ ?_
      exact p_X1_part_J55 hV res hP σ l1 h
    · rw [if_neg c2] at h
      by_cases c3 : l1 = 27
      · rw [if_pos c3] at h
        refine hV.run 9 [1, 0] (ws' := wX1 σ) (pc' := 77) (ls' := [(0, .ref 0), (1, .int l1)]) (st' := [.ref 1, .ref 6]) (ps := [¬ (X5_number (am_sub σ 1)) = (-1), l1 = 27]) rfl ⟨c2, c3, trivial⟩ ?_
        refine hV.cBi 1 5 [] (as := []) (rest := [.ref 6]) (st := [.ref 1, .ref 6]) (ws2 := wX1 σ) (pc2 := 80) kX1_127 (c_X5_number l (am_sub σ 1)) rfl rfl rfl rfl rfl rfl rfl rfl rfl rfl rfl rfl rfl rfl ?_
        obtain ⟨q4, hq4, h⟩ := am_bind h
        refine hV.cBv 6 8 [] (as := [.int (X5_number (am_sub σ 1))]) (rest := []) (st := [.int (X5_number (am_sub σ 1)), .ref 6]) (ws2 := wX1 (am_put σ 6 8 q4)) (pc2 := 83) kX1_161 (c_X3_emit l (am_sub σ 6) (X5_number (am_sub σ 1)) q4 hq4) rfl rfl rfl rfl rfl rfl rfl rfl rfl rfl rfl rfl rfl rfl ?_
        refine hV.run 1 [] (ws' := wX1 (am_put σ 6 8 q4)) (pc' := 178) (ls' := [(0, .ref 0), (1, .int l1)]) (st' := []) (ps := []) rfl trivial ?_
        exact p_X1_part_J178 hV res hP (am_put σ 6 8 q4) l1 h
      · rw [if_neg c3] at h
        by_cases c5 : l1 = 140
        · rw [if_pos c5] at h
          refine hV.run 13 [1, 1, 0] (ws' := wX1 σ) (pc' := 102) (ls' := [(0, .ref 0), (1, .int l1)]) (st' := [.int 0, .int (σ 0 8), .ref 16]) (ps := [¬ (X5_number (am_sub σ 1)) = (-1), ¬ l1 = 27, l1 = 140]) rfl ⟨c2, c3, c5, trivial⟩ ?_
          refine hV.cSv (as := [.ref 0, .int (σ 0 8), .int 0]) (js := [16]) (rest := []) (st := [.int 0, .int (σ 0 8), .ref 16]) (ws2 := wX1 (sC σ 16 (jput 40 (σ 16) (σ 0 8) 0))) (pc2 := 105) kX1_104 (c_put l 1 40 (by decide) (σ 16) (σ 0 8) 0) rfl rfl rfl rfl rfl rfl rfl rfl rfl rfl ?_
          refine hV.run 24 [] (ws' := wX1 (sC (sC σ 0 (am_u (am_u (am_u (σ 0) 8 ((σ 0 8) + 1)) 9 ((σ 0 9) + 1)) 10 ((σ 0 10) &&& ((1 <<< (((σ 0 9) + 1) &&& 31)) ^^^ (-1))))) 16 (jput 40 (σ 16) (σ 0 8) 0))) (pc' := 178) (ls' := [(0, .ref 0), (1, .int l1)]) (st' := []) (ps := []) rfl trivial ?_
          exact p_X1_part_J178 hV res hP (sC (sC σ 0 (am_u (am_u (am_u (σ 0) 8 ((σ 0 8) + 1)) 9 ((σ 0 9) + 1)) 10 ((σ 0 10) &&& ((1 <<< (((σ 0 9) + 1) &&& 31)) ^^^ (-1))))) 16 (jput 40 (σ 16) (σ 0 8) 0)) l1 h
        · rw [if_neg c5] at h
          by_cases c6 : l1 < 11
          · rw [if_pos c6] at h
            refine hV.run 11 [1, 1, 1, 1] (ws' := wX1 σ) (pc' := 173) (ls' := [(0, .ref 0), (1, .int l1)]) (st' := []) (ps := [¬ (X5_number (am_sub σ 1)) = (-1), ¬ l1 = 27, ¬ l1 = 140, l1 < 11]) rfl ⟨c2, c3, c5, c6, trivial⟩ ?_
            exact p_X1_part_J173 hV res hP σ l1 h
          · rw [if_neg c6] at h
            by_cases c7 : 17 < l1
            · rw [if_pos c7] at h
              refine hV.run 14 [1, 1, 1, 0, 1] (ws' := wX1 σ) (pc' := 173) (ls' := [(0, .ref 0), (1, .int l1)]) (st' := []) (ps := [¬ (X5_number (am_sub σ 1)) = (-1), ¬ l1 = 27, ¬ l1 = 140, ¬ l1 < 11, 17 < l1]) rfl ⟨c2, c3, c5, c6, c7, trivial⟩ ?_
              exact p_X1_part_J173 hV res hP σ l1 h
            · rw [if_neg c7] at h
              refine hV.run 21 [1, 1, 1, 0, 0] (ws' := wX1 σ) (pc' := 167) (ls' := [(0, .ref 0), (1, .int l1)]) (st' := [.int ((-1) - (l1 - 11)), .ref 6]) (ps := [¬ (X5_number (am_sub σ 1)) = (-1), ¬ l1 = 27, ¬ l1 = 140, ¬ l1 < 11, ¬ 17 < l1]) rfl ⟨c2, c3, c5, c6, c7, trivial⟩ ?_
              obtain ⟨q8, hq8, h⟩ := am_bind h
              refine hV.cBv 6 8 [] (as := [.int ((-1) - (l1 - 11))]) (rest := []) (st := [.int ((-1) - (l1 - 11)), .ref 6]) (ws2 := wX1 (am_put σ 6 8 q8)) (pc2 := 170) kX1_161 (c_X3_emit l (am_sub σ 6) ((-1) - (l1 - 11)) q8 hq8) rfl rfl rfl rfl rfl rfl rfl rfl rfl rfl rfl rfl rfl rfl ?_
              refine hV.run 1 [] (ws' := wX1 (am_put σ 6 8 q8)) (pc' := 178) (ls' := [(0, .ref 0), (1, .int l1)]) (st' := []) (ps := []) rfl trivial ?_
              exact p_X1_part_J178 hV res hP (am_put σ 6 8 q8) l1 h
def X1_part (σ : am_M) : Option (Bool × am_M) := if (X5_sort (am_sub σ 1)) = 27 then (X1_part_J35 σ (X5_sort (am_sub σ 1))) else (if (X5_sort (am_sub σ 1)) = 140 then (X1_part_J35 σ (X5_sort (am_sub σ 1))) else (if (X5_sort (am_sub σ 1)) ≤ 26 then (X1_part_J35 σ (X5_sort (am_sub σ 1))) else (X1_refuse σ 1).bind (fun q4 => X1_part_J178 q4 (X5_sort (am_sub σ 1)))))
set_option maxRecDepth 100000 in
set_option maxHeartbeats 4000000 in
theorem c_X1_part (l : Launch) (σ : am_M) (res : (Bool × am_M)) (h : X1_part σ = some res) : am_Con l yX1_part cX1_part 2 (some .boolean) 3 [.ref 0] (wX1 σ) (fun (r : Option Value) (w : am_W) => r = (some (.int (b2i res.1))) ∧ w = (wX1 res.2)) := by
  refine am_metn (n0 := 17) (own := RX1) (cd := am_cdT' tX1_part) (rf := am_rfL rfX1) (ini := false) rfl (by decide +kernel) rfl (by decide) dX1_part rfX1_ok (Nat.le_of_ble_eq_true rfl) ?_
  intro V hV
  have hP : (fun (r : Option Value) (w : am_W) => r = (some (.int (b2i res.1))) ∧ w = (wX1 res.2)) (some (.int (b2i res.1))) (wX1 res.2) := ⟨rfl, rfl⟩
  show V (wX1 σ) 0 [(0, .ref 0)] []
  unfold X1_part at h
  refine hV.run 2 [] (ws' := wX1 σ) (pc' := 4) (ls' := [(0, .ref 0)]) (st' := [.ref 1]) (ps := []) rfl trivial ?_
  refine hV.cBi 1 5 [] (as := []) (rest := []) (st := [.ref 1]) (ws2 := wX1 σ) (pc2 := 7) kX1_52 (c_X5_sort l (am_sub σ 1)) rfl rfl rfl rfl rfl rfl rfl rfl rfl rfl rfl rfl rfl rfl ?_
  by_cases c1 : (X5_sort (am_sub σ 1)) = 27
  · rw [if_pos c1] at h
    refine hV.run 4 [1] (ws' := wX1 σ) (pc' := 35) (ls' := [(1, .int (X5_sort (am_sub σ 1))), (0, .ref 0)]) (st' := []) (ps := [(X5_sort (am_sub σ 1)) = 27]) rfl ⟨c1, trivial⟩ ?_
    refine hV.pick [1, 0] (ls' := [(0, .ref 0), (1, .int (X5_sort (am_sub σ 1)))]) rfl ?_
    exact p_X1_part_J35 hV res hP σ (X5_sort (am_sub σ 1)) h
  · rw [if_neg c1] at h
    by_cases c2 : (X5_sort (am_sub σ 1)) = 140
    · rw [if_pos c2] at h
      refine hV.run 7 [0, 1] (ws' := wX1 σ) (pc' := 35) (ls' := [(1, .int (X5_sort (am_sub σ 1))), (0, .ref 0)]) (st' := []) (ps := [¬ (X5_sort (am_sub σ 1)) = 27, (X5_sort (am_sub σ 1)) = 140]) rfl ⟨c1, c2, trivial⟩ ?_
      refine hV.pick [1, 0] (ls' := [(0, .ref 0), (1, .int (X5_sort (am_sub σ 1)))]) rfl ?_
      exact p_X1_part_J35 hV res hP σ (X5_sort (am_sub σ 1)) h
    · rw [if_neg c2] at h
      by_cases c3 : (X5_sort (am_sub σ 1)) ≤ 26
      · rw [if_pos c3] at h
        refine hV.run 10 [0, 0, 1] (ws' := wX1 σ) (pc' := 35) (ls' := [(1, .int (X5_sort (am_sub σ 1))), (0, .ref 0)]) (st' := []) (ps := [¬ (X5_sort (am_sub σ 1)) = 27, ¬ (X5_sort (am_sub σ 1)) = 140, (X5_sort (am_sub σ 1)) ≤ 26]) rfl ⟨c1, c2, c3, trivial⟩ ?_
        refine hV.pick [1, 0] (ls' := [(0, .ref 0), (1, .int (X5_sort (am_sub σ 1)))]) rfl ?_
        exact p_X1_part_J35 hV res hP σ (X5_sort (am_sub σ 1)) h
      · rw [if_neg c3] at h
        refine hV.run 12 [0, 0, 0] (ws' := wX1 σ) (pc' := 29) (ls' := [(1, .int (X5_sort (am_sub σ 1))), (0, .ref 0)]) (st' := [.int 1, .ref 0]) (ps := [¬ (X5_sort (am_sub σ 1)) = 27, ¬ (X5_sort (am_sub σ 1)) = 140, ¬ (X5_sort (am_sub σ 1)) ≤ 26]) rfl ⟨c1, c2, c3, trivial⟩ ?_
        obtain ⟨q4, hq4, h⟩ := am_bind h
        refine hV.cOv (as := [.int 1]) (rest := []) (st := [.int 1, .ref 0]) (ws2 := wX1 q4) (pc2 := 32) kX1_65 (c_X1_refuse l σ 1 q4 hq4) rfl rfl rfl rfl rfl rfl rfl rfl rfl ?_
        refine hV.run 1 [] (ws' := wX1 q4) (pc' := 178) (ls' := [(1, .int (X5_sort (am_sub σ 1))), (0, .ref 0)]) (st' := []) (ps := []) rfl trivial ?_
        refine hV.pick [1, 0] (ls' := [(0, .ref 0), (1, .int (X5_sort (am_sub σ 1)))]) rfl ?_
        exact p_X1_part_J178 hV res hP q4 (X5_sort (am_sub σ 1)) h

def X1_rankOf (a1 : Int32) : Int32 := if a1 = (-15) then (0) else (if a1 = (-14) then (0) else (if a1 = (-11) then (1) else (if a1 = (-10) then (1) else (if a1 = 0 then (-1) else (2)))))
set_option maxRecDepth 100000 in
set_option maxHeartbeats 4000000 in
theorem c_X1_rankOf (l : Launch) (a1 : Int32) : am_Con l yX1_rankOf cX1_rankOf 1 (some .int) 1 [.int a1] [] (fun (r : Option Value) (w : am_W) => r = (some (.int (X1_rankOf a1))) ∧ w = []) := by
  obtain ⟨res, h⟩ : ∃ res, (X1_rankOf a1) = res := ⟨_, rfl⟩
  rw [h]
  refine am_metn (n0 := 0) (own := RX1) (cd := am_cdT' tX1_rankOf) (rf := am_rfL rfX1) (ini := false) rfl (by decide +kernel) rfl (by decide) dX1_rankOf rfX1_ok (Nat.le_of_ble_eq_true rfl) ?_
  intro V hV
  have hP : (fun (r : Option Value) (w : am_W) => r = (some (.int res)) ∧ w = []) (some (.int res)) [] := ⟨rfl, rfl⟩
  show V [] 0 [(0, .int a1)] []
  unfold X1_rankOf at h
  by_cases c1 : a1 = (-15)
  · rw [if_pos c1] at h
    refine hV.run 3 [1] (ws' := []) (pc' := 55) (ls' := [(0, .int a1)]) (st' := [.int 0]) (ps := [(1 : Int) + Op.lookupswitch.offset [(-15, 53), (-14, 53), (-11, 55), (-10, 55), (0, 51)] (57) a1.toInt = ((54 : Nat) : Int)]) rfl ⟨(by rw [c1]; decide), trivial⟩ ?_
    subst h
    exact hV.ri rfl rfl rfl hP
  · rw [if_neg c1] at h
    by_cases c2 : a1 = (-14)
    · rw [if_pos c2] at h
      refine hV.run 3 [2] (ws' := []) (pc' := 55) (ls' := [(0, .int a1)]) (st' := [.int 0]) (ps := [(1 : Int) + Op.lookupswitch.offset [(-15, 53), (-14, 53), (-11, 55), (-10, 55), (0, 51)] (57) a1.toInt = ((54 : Nat) : Int)]) rfl ⟨(by rw [c2]; decide), trivial⟩ ?_
      subst h
      exact hV.ri rfl rfl rfl hP
    · rw [if_neg c2] at h
      by_cases c3 : a1 = (-11)
      · rw [if_pos c3] at h
        refine hV.run 3 [3] (ws' := []) (pc' := 57) (ls' := [(0, .int a1)]) (st' := [.int 1]) (ps := [(1 : Int) + Op.lookupswitch.offset [(-15, 53), (-14, 53), (-11, 55), (-10, 55), (0, 51)] (57) a1.toInt = ((56 : Nat) : Int)]) rfl ⟨(by rw [c3]; decide), trivial⟩ ?_
        subst h
        exact hV.ri rfl rfl rfl hP
      · rw [if_neg c3] at h
        by_cases c4 : a1 = (-10)
        · rw [if_pos c4] at h
          refine hV.run 3 [4] (ws' := []) (pc' := 57) (ls' := [(0, .int a1)]) (st' := [.int 1]) (ps := [(1 : Int) + Op.lookupswitch.offset [(-15, 53), (-14, 53), (-11, 55), (-10, 55), (0, 51)] (57) a1.toInt = ((56 : Nat) : Int)]) rfl ⟨(by rw [c4]; decide), trivial⟩ ?_
          subst h
          exact hV.ri rfl rfl rfl hP
        · rw [if_neg c4] at h
          by_cases c5 : a1 = 0
          · rw [if_pos c5] at h
            refine hV.run 3 [5] (ws' := []) (pc' := 53) (ls' := [(0, .int a1)]) (st' := [.int (-1)]) (ps := [(1 : Int) + Op.lookupswitch.offset [(-15, 53), (-14, 53), (-11, 55), (-10, 55), (0, 51)] (57) a1.toInt = ((52 : Nat) : Int)]) rfl ⟨(by rw [c5]; decide), trivial⟩ ?_
            subst h
            exact hV.ri rfl rfl rfl hP
          · rw [if_neg c5] at h
            refine hV.run 3 [0] (ws' := []) (pc' := 59) (ls' := [(0, .int a1)]) (st' := [.int 2]) (ps := [(1 : Int) + Op.lookupswitch.offset [(-15, 53), (-14, 53), (-11, 55), (-10, 55), (0, 51)] (57) a1.toInt = ((58 : Nat) : Int)]) rfl ⟨(by have c1_ := am_ne c1 (by decide : ((-15) : Int32).toInt = (-15)); have c2_ := am_ne c2 (by decide : ((-14) : Int32).toInt = (-14)); have c3_ := am_ne c3 (by decide : ((-11) : Int32).toInt = (-11)); have c4_ := am_ne c4 (by decide : ((-10) : Int32).toInt = (-10)); have c5_ := am_ne c5 (by decide : (0 : Int32).toInt = 0); simp [Op.lookupswitch.offset, c1_, c2_, c3_, c4_, c5_, Ne.symm c1_, Ne.symm c2_, Ne.symm c3_, Ne.symm c4_, Ne.symm c5_]), trivial⟩ ?_
            subst h
            exact hV.ri rfl rfl rfl hP

def X1_popDownTo_B0 (n : Nat) (kont0 : am_M → Int32 → Option am_M) (σ : am_M) (l1 : Int32) : Option am_M := if (σ 0 8) ≤ 0 then (some σ) else (if (X1_rankOf (jat 40 (σ 16) ((σ 0 8) - 1))) < l1 then (some σ) else (X3_emit (am_sub (sC σ 0 (am_u (σ 0) 8 ((σ 0 8) - 1))) 6) (jat 40 (σ 16) ((σ 0 8) - 1))).bind (fun q3 => kont0 (am_put (sC σ 0 (am_u (σ 0) 8 ((σ 0 8) - 1))) 6 8 q3) l1))
def X1_popDownTo_L0 (n : Nat) : Nat → am_M → Int32 → Option am_M
 | 0 => fun _ _ => none
 | k + 1 => fun σ l1 => X1_popDownTo_B0 n (X1_popDownTo_L0 n k) σ l1
set_option maxRecDepth 100000 in
set_option maxHeartbeats 4000000 in
theorem p_X1_popDownTo_B0 {l : Launch} {Post : Option Value → am_W → Prop} {V : am_VT} (hV : am_B l RX1 false 2 (am_cdT' tX1_popDownTo) (am_rfL rfX1) none Post 17 V) (n : Nat) (res : am_M) (hP : Post none (wX1 res)) (kont0 : am_M → Int32 → Option am_M) (hk0 : ∀ (σ : am_M) (l1 : Int32), kont0 σ l1 = some res → V (wX1 σ) 0 [(0, .ref 0), (1, .int l1)] []) (σ : am_M) (l1 : Int32) (h : X1_popDownTo_B0 n kont0 σ l1 = some res) : V (wX1 σ) 0 [(0, .ref 0), (1, .int l1)] [] := by
  unfold X1_popDownTo_B0 at h
  by_cases c1 : (σ 0 8) ≤ 0
  · rw [if_pos c1] at h
    refine hV.run 3 [1] (ws' := wX1 σ) (pc' := 58) (ls' := [(0, .ref 0), (1, .int l1)]) (st' := []) (ps := [(σ 0 8) ≤ 0]) rfl ⟨c1, trivial⟩ ?_
    cases h
    exact hV.rv rfl rfl rfl hP
  · rw [if_neg c1] at h
    refine hV.run 9 [0] (ws' := wX1 σ) (pc' := 17) (ls' := [(0, .ref 0), (1, .int l1)]) (st' := [.int ((σ 0 8) - 1), .ref 16]) (ps := [¬ (σ 0 8) ≤ 0]) rfl ⟨c1, trivial⟩ ?_
    refine hV.cSi (as := [.ref 0, .int ((σ 0 8) - 1)]) (js := [16]) (rest := []) (st := [.int ((σ 0 8) - 1), .ref 16]) (ws2 := wX1 σ) (pc2 := 20) kX1_74 (c_at l 1 40 (by decide) (σ 16) ((σ 0 8) - 1)) rfl rfl rfl rfl rfl rfl rfl rfl rfl rfl ?_
    refine hV.cSi (as := [.int (jat 40 (σ 16) ((σ 0 8) - 1))]) (js := []) (rest := []) (st := [.int (jat 40 (σ 16) ((σ 0 8) - 1))]) (ws2 := wX1 σ) (pc2 := 23) kX1_164 (c_X1_rankOf l (jat 40 (σ 16) ((σ 0 8) - 1))) rfl rfl rfl rfl rfl rfl rfl rfl rfl rfl ?_
    by_cases c2 : (X1_rankOf (jat 40 (σ 16) ((σ 0 8) - 1))) < l1
    · rw [if_pos c2] at h
      refine hV.run 2 [1] (ws' := wX1 σ) (pc' := 58) (ls' := [(0, .ref 0), (1, .int l1)]) (st' := []) (ps := [(X1_rankOf (jat 40 (σ 16) ((σ 0 8) - 1))) < l1]) rfl ⟨c2, trivial⟩ ?_
      cases h
      exact hV.rv rfl rfl rfl hP
    · rw [if_neg c2] at h
      refine hV.run 14 [0] (ws' := wX1 (sC σ 0 (am_u (σ 0) 8 ((σ 0 8) - 1)))) (pc' := 49) (ls' := [(0, .ref 0), (1, .int l1)]) (st' := [.int ((σ 0 8) - 1), .ref 16, .ref 6]) (ps := [¬ (X1_rankOf (jat 40 (σ 16) ((σ 0 8) - 1))) < l1]) rfl ⟨c2, trivial⟩ ?_
      refine hV.cSi (as := [.ref 0, .int ((σ 0 8) - 1)]) (js := [16]) (rest := [.ref 6]) (st := [.int ((σ 0 8) - 1), .ref 16, .ref 6]) (ws2 := wX1 (sC σ 0 (am_u (σ 0) 8 ((σ 0 8) - 1)))) (pc2 := 52) kX1_74 (c_at l 1 40 (by decide) (σ 16) ((σ 0 8) - 1)) rfl rfl rfl rfl rfl rfl rfl rfl rfl rfl ?_
      obtain ⟨q3, hq3, h⟩ := am_bind h
      refine hV.cBv 6 8 [] (as := [.int (jat 40 (σ 16) ((σ 0 8) - 1))]) (rest := []) (st := [.int (jat 40 (σ 16) ((σ 0 8) - 1)), .ref 6]) (ws2 := wX1 (am_put (sC σ 0 (am_u (σ 0) 8 ((σ 0 8) - 1))) 6 8 q3)) (pc2 := 55) kX1_161 (c_X3_emit l (am_sub (sC σ 0 (am_u (σ 0) 8 ((σ 0 8) - 1))) 6) (jat 40 (σ 16) ((σ 0 8) - 1)) q3 hq3) rfl rfl rfl rfl rfl rfl rfl rfl rfl rfl rfl rfl rfl rfl ?_
      refine hV.run 1 [] (ws' := wX1 (am_put (sC σ 0 (am_u (σ 0) 8 ((σ 0 8) - 1))) 6 8 q3)) (pc' := 0) (ls' := [(0, .ref 0), (1, .int l1)]) (st' := []) (ps := []) rfl trivial ?_
      exact hk0 (am_put (sC σ 0 (am_u (σ 0) 8 ((σ 0 8) - 1))) 6 8 q3) l1 h
theorem p_X1_popDownTo_L0 {l : Launch} {Post : Option Value → am_W → Prop} {V : am_VT} (hV : am_B l RX1 false 2 (am_cdT' tX1_popDownTo) (am_rfL rfX1) none Post 17 V) (n : Nat) (res : am_M) (hP : Post none (wX1 res)) : ∀ (k : Nat) (σ : am_M) (l1 : Int32) (h : X1_popDownTo_L0 n k σ l1 = some res), V (wX1 σ) 0 [(0, .ref 0), (1, .int l1)] [] := by
  intro k
  induction k with
  | zero => intro σ l1 h; cases h
  | succ k ih => intro σ l1 h; exact p_X1_popDownTo_B0 hV n res hP _ ih σ l1 h
def X1_popDownTo (n : Nat) (σ : am_M) (a1 : Int32) : Option am_M := X1_popDownTo_L0 n n σ a1
set_option maxRecDepth 100000 in
set_option maxHeartbeats 4000000 in
theorem c_X1_popDownTo (l : Launch) (n : Nat) (σ : am_M) (a1 : Int32) (res : am_M) (h : X1_popDownTo n σ a1 = some res) : am_Con l yX1_popDownTo cX1_popDownTo 2 none 2 [.ref 0, .int a1] (wX1 σ) (fun (r : Option Value) (w : am_W) => r = none ∧ w = (wX1 res)) := by
  refine am_metn (n0 := 17) (own := RX1) (cd := am_cdT' tX1_popDownTo) (rf := am_rfL rfX1) (ini := false) rfl (by decide +kernel) rfl (by decide) dX1_popDownTo rfX1_ok (Nat.le_of_ble_eq_true rfl) ?_
  intro V hV
  have hP : (fun (r : Option Value) (w : am_W) => r = none ∧ w = (wX1 res)) none (wX1 res) := ⟨rfl, rfl⟩
  show V (wX1 σ) 0 [(0, .ref 0), (1, .int a1)] []
  unfold X1_popDownTo at h
  exact p_X1_popDownTo_L0 hV n res hP n σ a1 h

def X1_push_J29 (n : Nat) (σ : am_M) (l1 : Int32) : Option am_M := (X5_advance (am_sub (sC (sC σ 0 (am_u (σ 0) 8 ((σ 0 8) + 1))) 16 (jput 40 (σ 16) (σ 0 8) l1)) 1)).bind (fun q1 => some (am_put (sC (sC σ 0 (am_u (σ 0) 8 ((σ 0 8) + 1))) 16 (jput 40 (σ 16) (σ 0 8) l1)) 1 5 q1))
set_option maxRecDepth 100000 in
set_option maxHeartbeats 4000000 in
theorem p_X1_push_J29 {l : Launch} {Post : Option Value → am_W → Prop} {V : am_VT} (hV : am_B l RX1 false 3 (am_cdT' tX1_push) (am_rfL rfX1) none Post 17 V) (n : Nat) (res : am_M) (hP : Post none (wX1 res)) (σ : am_M) (l1 : Int32) (h : X1_push_J29 n σ l1 = some res) : V (wX1 σ) 29 [(0, .ref 0), (1, .int l1)] [] := by
  unfold X1_push_J29 at h
  refine hV.run 5 [] (ws' := wX1 σ) (pc' := 38) (ls' := [(0, .ref 0), (1, .int l1)]) (st' := [.int l1, .int (σ 0 8), .ref 16]) (ps := []) rfl trivial ?_
  refine hV.cSv (as := [.ref 0, .int (σ 0 8), .int l1]) (js := [16]) (rest := []) (st := [.int l1, .int (σ 0 8), .ref 16]) (ws2 := wX1 (sC σ 16 (jput 40 (σ 16) (σ 0 8) l1))) (pc2 := 41) kX1_104 (c_put l 1 40 (by decide) (σ 16) (σ 0 8) l1) rfl rfl rfl rfl rfl rfl rfl rfl rfl rfl ?_
  refine hV.run 8 [] (ws' := wX1 (sC (sC σ 0 (am_u (σ 0) 8 ((σ 0 8) + 1))) 16 (jput 40 (σ 16) (σ 0 8) l1))) (pc' := 55) (ls' := [(0, .ref 0), (1, .int l1)]) (st' := [.ref 1]) (ps := []) rfl trivial ?_
  obtain ⟨q1, hq1, h⟩ := am_bind h
  refine hV.cBv 1 5 [] (as := []) (rest := []) (st := [.ref 1]) (ws2 := wX1 (am_put (sC (sC σ 0 (am_u (σ 0) 8 ((σ 0 8) + 1))) 16 (jput 40 (σ 16) (σ 0 8) l1)) 1 5 q1)) (pc2 := 58) kX1_78 (c_X5_advance l (am_sub (sC (sC σ 0 (am_u (σ 0) 8 ((σ 0 8) + 1))) 16 (jput 40 (σ 16) (σ 0 8) l1)) 1) q1 hq1) rfl rfl rfl rfl rfl rfl rfl rfl rfl rfl rfl rfl rfl rfl ?_
  cases h
  exact hV.rv rfl rfl rfl hP
def X1_push (n : Nat) (σ : am_M) (a1 : Int32) : Option am_M := (X1_popDownTo n σ (X1_rankOf a1)).bind (fun q1 => if (X1_rankOf a1) = 0 then (X1_push_J29 n (sC q1 0 (am_u (q1 0) 10 ((q1 0 10) ||| (1 <<< ((q1 0 9) &&& 31))))) a1) else (X1_push_J29 n q1 a1))
set_option maxRecDepth 100000 in
set_option maxHeartbeats 4000000 in
theorem c_X1_push (l : Launch) (n : Nat) (σ : am_M) (a1 : Int32) (res : am_M) (h : X1_push n σ a1 = some res) : am_Con l yX1_push cX1_push 3 none 3 [.ref 0, .int a1] (wX1 σ) (fun (r : Option Value) (w : am_W) => r = none ∧ w = (wX1 res)) := by
  refine am_metn (n0 := 17) (own := RX1) (cd := am_cdT' tX1_push) (rf := am_rfL rfX1) (ini := false) rfl (by decide +kernel) rfl (by decide) dX1_push rfX1_ok (Nat.le_of_ble_eq_true rfl) ?_
  intro V hV
  have hP : (fun (r : Option Value) (w : am_W) => r = none ∧ w = (wX1 res)) none (wX1 res) := ⟨rfl, rfl⟩
  show V (wX1 σ) 0 [(0, .ref 0), (1, .int a1)] []
  unfold X1_push at h
  refine hV.run 1 [] (ws' := wX1 σ) (pc' := 1) (ls' := [(0, .ref 0), (1, .int a1)]) (st' := [.int a1]) (ps := []) rfl trivial ?_
  refine hV.cSi (as := [.int a1]) (js := []) (rest := []) (st := [.int a1]) (ws2 := wX1 σ) (pc2 := 4) kX1_164 (c_X1_rankOf l a1) rfl rfl rfl rfl rfl rfl rfl rfl rfl rfl ?_
  refine hV.run 3 [] (ws' := wX1 σ) (pc' := 7) (ls' := [(2, .int (X1_rankOf a1)), (0, .ref 0), (1, .int a1)]) (st' := [.int (X1_rankOf a1), .ref 0]) (ps := []) rfl trivial ?_
  obtain ⟨q1, hq1, h⟩ := am_bind h
  refine hV.cOv (as := [.int (X1_rankOf a1)]) (rest := []) (st := [.int (X1_rankOf a1), .ref 0]) (ws2 := wX1 q1) (pc2 := 10) kX1_158 (c_X1_popDownTo l n σ (X1_rankOf a1) q1 hq1) rfl rfl rfl rfl rfl rfl rfl rfl rfl ?_
  by_cases c2 : (X1_rankOf a1) = 0
  · rw [if_pos c2] at h
    refine hV.run 11 [0] (ws' := wX1 (sC q1 0 (am_u (q1 0) 10 ((q1 0 10) ||| (1 <<< ((q1 0 9) &&& 31)))))) (pc' := 29) (ls' := [(2, .int (X1_rankOf a1)), (0, .ref 0), (1, .int a1)]) (st' := []) (ps := [(X1_rankOf a1) = 0]) rfl ⟨c2, trivial⟩ ?_
    refine hV.pick [1, 2] (ls' := [(0, .ref 0), (1, .int a1)]) rfl ?_
    exact p_X1_push_J29 hV n res hP (sC q1 0 (am_u (q1 0) 10 ((q1 0 10) ||| (1 <<< ((q1 0 9) &&& 31))))) a1 h
  · rw [if_neg c2] at h
    refine hV.run 2 [1] (ws' := wX1 q1) (pc' := 29) (ls' := [(2, .int (X1_rankOf a1)), (0, .ref 0), (1, .int a1)]) (st' := []) (ps := [¬ (X1_rankOf a1) = 0]) rfl ⟨c2, trivial⟩ ?_
    refine hV.pick [1, 2] (ls' := [(0, .ref 0), (1, .int a1)]) rfl ?_
    exact p_X1_push_J29 hV n res hP q1 a1 h

def X1_closeParenthesis (n : Nat) (σ : am_M) : Option am_M := (X1_popDownTo n σ 0).bind (fun q1 => (X5_advance (am_sub (sC q1 0 (am_u (am_u (q1 0) 8 ((q1 0 8) - 1)) 9 ((q1 0 9) - 1))) 1)).bind (fun q2 => some (am_put (sC q1 0 (am_u (am_u (q1 0) 8 ((q1 0 8) - 1)) 9 ((q1 0 9) - 1))) 1 5 q2)))
set_option maxRecDepth 100000 in
set_option maxHeartbeats 4000000 in
theorem c_X1_closeParenthesis (l : Launch) (n : Nat) (σ : am_M) (res : am_M) (h : X1_closeParenthesis n σ = some res) : am_Con l yX1_closeParenthesis cX1_closeParenthesis 1 none 3 [.ref 0] (wX1 σ) (fun (r : Option Value) (w : am_W) => r = none ∧ w = (wX1 res)) := by
  refine am_metn (n0 := 17) (own := RX1) (cd := am_cdT' tX1_closeParenthesis) (rf := am_rfL rfX1) (ini := false) rfl (by decide +kernel) rfl (by decide) dX1_closeParenthesis rfX1_ok (Nat.le_of_ble_eq_true rfl) ?_
  intro V hV
  have hP : (fun (r : Option Value) (w : am_W) => r = none ∧ w = (wX1 res)) none (wX1 res) := ⟨rfl, rfl⟩
  show V (wX1 σ) 0 [(0, .ref 0)] []
  unfold X1_closeParenthesis at h
  refine hV.run 2 [] (ws' := wX1 σ) (pc' := 2) (ls' := [(0, .ref 0)]) (st' := [.int 0, .ref 0]) (ps := []) rfl trivial ?_
  obtain ⟨q1, hq1, h⟩ := am_bind h
  refine hV.cOv (as := [.int 0]) (rest := []) (st := [.int 0, .ref 0]) (ws2 := wX1 q1) (pc2 := 5) kX1_158 (c_X1_popDownTo l n σ 0 q1 hq1) rfl rfl rfl rfl rfl rfl rfl rfl rfl ?_
  refine hV.run 14 [] (ws' := wX1 (sC q1 0 (am_u (am_u (q1 0) 8 ((q1 0 8) - 1)) 9 ((q1 0 9) - 1)))) (pc' := 29) (ls' := [(0, .ref 0)]) (st' := [.ref 1]) (ps := []) rfl trivial ?_
  obtain ⟨q2, hq2, h⟩ := am_bind h
  refine hV.cBv 1 5 [] (as := []) (rest := []) (st := [.ref 1]) (ws2 := wX1 (am_put (sC q1 0 (am_u (am_u (q1 0) 8 ((q1 0 8) - 1)) 9 ((q1 0 9) - 1))) 1 5 q2)) (pc2 := 32) kX1_78 (c_X5_advance l (am_sub (sC q1 0 (am_u (am_u (q1 0) 8 ((q1 0 8) - 1)) 9 ((q1 0 9) - 1))) 1) q2 hq2) rfl rfl rfl rfl rfl rfl rfl rfl rfl rfl rfl rfl rfl rfl ?_
  cases h
  exact hV.rv rfl rfl rfl hP

