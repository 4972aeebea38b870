def X1_closeIf_J66 (n : Nat) (σ : am_M) (s0 : Int32) (s1 : Int32) : Option am_M := (X3_close n (am_sub σ 6) s1 s0).bind (fun q1 => (X5_advance (am_sub (am_put σ 6 8 q1) 1)).bind (fun q2 => (X1_need (am_put (am_put σ 6 8 q1) 1 5 q2) 159).bind (fun q3 => some q3)))
set_option maxRecDepth 100000 in
set_option maxHeartbeats 4000000 in
theorem p_X1_closeIf_J66 {l : Launch} {Post : Option Value → am_W → Prop} {V : am_VT} (hV : am_B l RX1 false 4 (am_cdT' tX1_closeIf) (am_rfL rfX1) none Post 17 V) (n : Nat) (res : am_M) (hP : Post none (wX1 res)) (σ : am_M) (s0 : Int32) (s1 : Int32) (h : X1_closeIf_J66 n σ s0 s1 = some res) : V (wX1 σ) 66 [(0, .ref 0)] [.int s0, .int s1, .ref 6] := by
  unfold X1_closeIf_J66 at h
  obtain ⟨q1, hq1, h⟩ := am_bind h
  refine hV.cBv 6 8 [] (as := [.int s1, .int s0]) (rest := []) (st := [.int s0, .int s1, .ref 6]) (ws2 := wX1 (am_put σ 6 8 q1)) (pc2 := 69) kX1_112 (c_X3_close l n (am_sub σ 6) s1 s0 q1 hq1) rfl rfl rfl rfl rfl rfl rfl rfl rfl rfl rfl rfl rfl rfl ?_
  refine hV.run 2 [] (ws' := wX1 (am_put σ 6 8 q1)) (pc' := 73) (ls' := [(0, .ref 0)]) (st' := [.ref 1]) (ps := []) rfl trivial ?_
  obtain ⟨q2, hq2, h⟩ := am_bind h
  refine hV.cBv 1 5 [] (as := []) (rest := []) (st := [.ref 1]) (ws2 := wX1 (am_put (am_put σ 6 8 q1) 1 5 q2)) (pc2 := 76) kX1_78 (c_X5_advance l (am_sub (am_put σ 6 8 q1) 1) q2 hq2) rfl rfl rfl rfl rfl rfl rfl rfl rfl rfl rfl rfl rfl rfl ?_
  refine hV.run 2 [] (ws' := wX1 (am_put (am_put σ 6 8 q1) 1 5 q2)) (pc' := 80) (ls' := [(0, .ref 0)]) (st' := [.int 159, .ref 0]) (ps := []) rfl trivial ?_
  obtain ⟨q3, hq3, h⟩ := am_bind h
  refine hV.cOv (as := [.int 159]) (rest := []) (st := [.int 159, .ref 0]) (ws2 := wX1 q3) (pc2 := 83) kX1_101 (c_X1_need l (am_put (am_put σ 6 8 q1) 1 5 q2) 159 q3 hq3) rfl rfl rfl rfl rfl rfl rfl rfl rfl ?_
  cases h
  exact hV.rv rfl rfl rfl hP
def X1_closeIf (n : Nat) (σ : am_M) : Option am_M := if (σ 0 6) = 0 then (X1_refuse σ 1).bind (fun q2 => some q2) else (if (jat 4 (σ 15) ((σ 0 6) - 1)) = (-1) then (X1_closeIf_J66 n (sC σ 0 (am_u (σ 0) 6 ((σ 0 6) - 1))) (σ 6 7) (jat 4 (σ 14) ((σ 0 6) - 1))) else (X1_closeIf_J66 n (sC σ 0 (am_u (σ 0) 6 ((σ 0 6) - 1))) (jat 4 (σ 15) ((σ 0 6) - 1)) (jat 4 (σ 14) ((σ 0 6) - 1))))
set_option maxRecDepth 100000 in
set_option maxHeartbeats 4000000 in
theorem c_X1_closeIf (l : Launch) (n : Nat) (σ : am_M) (res : am_M) (h : X1_closeIf n σ = some res) : am_Con l yX1_closeIf cX1_closeIf 2 none 4 [.ref 0] (wX1 σ) (fun (r : Option Value) (w : am_W) => r = none ∧ w = (wX1 res)) := by
  refine am_metn (n0 := 17) (own := RX1) (cd := am_cdT' tX1_closeIf) (rf := am_rfL rfX1) (ini := false) rfl (by decide +kernel) rfl (by decide) dX1_closeIf rfX1_ok (Nat.le_of_ble_eq_true rfl) ?_
  intro V hV
  have hP : (fun (r : Option Value) (w : am_W) => r = none ∧ w = (wX1 res)) none (wX1 res) := ⟨rfl, rfl⟩
  show V (wX1 σ) 0 [(0, .ref 0)] []
  unfold X1_closeIf at h
  by_cases c1 : (σ 0 6) = 0
  · rw [if_pos c1] at h
    refine hV.run 5 [0] (ws' := wX1 σ) (pc' := 9) (ls' := [(0, .ref 0)]) (st' := [.int 1, .ref 0]) (ps := [(σ 0 6) = 0]) rfl ⟨c1, trivial⟩ ?_
    obtain ⟨q2, hq2, h⟩ := am_bind h
    refine hV.cOv (as := [.int 1]) (rest := []) (st := [.int 1, .ref 0]) (ws2 := wX1 q2) (pc2 := 12) kX1_65 (c_X1_refuse l σ 1 q2 hq2) rfl rfl rfl rfl rfl rfl rfl rfl rfl ?_
    cases h
    exact hV.rv rfl rfl rfl hP
  · rw [if_neg c1] at h
    refine hV.run 13 [1] (ws' := wX1 (sC σ 0 (am_u (σ 0) 6 ((σ 0 6) - 1)))) (pc' := 31) (ls' := [(0, .ref 0)]) (st' := [.int ((σ 0 6) - 1), .ref 15]) (ps := [¬ (σ 0 6) = 0]) rfl ⟨c1, trivial⟩ ?_
    refine hV.cSi (as := [.ref 0, .int ((σ 0 6) - 1)]) (js := [15]) (rest := []) (st := [.int ((σ 0 6) - 1), .ref 15]) (ws2 := wX1 (sC σ 0 (am_u (σ 0) 6 ((σ 0 6) - 1)))) (pc2 := 34) kX1_74 (c_at l 1 4 (by decide) (σ 15) ((σ 0 6) - 1)) rfl rfl rfl rfl rfl rfl rfl rfl rfl rfl ?_
    refine hV.run 7 [] (ws' := wX1 (sC σ 0 (am_u (σ 0) 6 ((σ 0 6) - 1)))) (pc' := 47) (ls' := [(1, .int (jat 4 (σ 15) ((σ 0 6) - 1))), (0, .ref 0)]) (st' := [.int ((σ 0 6) - 1), .ref 14, .ref 6]) (ps := []) rfl trivial ?_
    refine hV.cSi (as := [.ref 0, .int ((σ 0 6) - 1)]) (js := [14]) (rest := [.ref 6]) (st := [.int ((σ 0 6) - 1), .ref 14, .ref 6]) (ws2 := wX1 (sC σ 0 (am_u (σ 0) 6 ((σ 0 6) - 1)))) (pc2 := 50) kX1_74 (c_at l 1 4 (by decide) (σ 14) ((σ 0 6) - 1)) rfl rfl rfl rfl rfl rfl rfl rfl rfl rfl ?_
    by_cases c3 : (jat 4 (σ 15) ((σ 0 6) - 1)) = (-1)
    · rw [if_pos c3] at h
      refine hV.run 7 [0] (ws' := wX1 (sC σ 0 (am_u (σ 0) 6 ((σ 0 6) - 1)))) (pc' := 66) (ls' := [(1, .int (jat 4 (σ 15) ((σ 0 6) - 1))), (0, .ref 0)]) (st' := [.int (σ 6 7), .int (jat 4 (σ 14) ((σ 0 6) - 1)), .ref 6]) (ps := [(jat 4 (σ 15) ((σ 0 6) - 1)) = (-1)]) rfl ⟨c3, trivial⟩ ?_
      refine hV.pick [1] (ls' := [(0, .ref 0)]) rfl ?_
      exact p_X1_closeIf_J66 hV n res hP (sC σ 0 (am_u (σ 0) 6 ((σ 0 6) - 1))) (σ 6 7) (jat 4 (σ 14) ((σ 0 6) - 1)) h
    · rw [if_neg c3] at h
      refine hV.run 4 [1] (ws' := wX1 (sC σ 0 (am_u (σ 0) 6 ((σ 0 6) - 1)))) (pc' := 66) (ls' := [(1, .int (jat 4 (σ 15) ((σ 0 6) - 1))), (0, .ref 0)]) (st' := [.int (jat 4 (σ 15) ((σ 0 6) - 1)), .int (jat 4 (σ 14) ((σ 0 6) - 1)), .ref 6]) (ps := [¬ (jat 4 (σ 15) ((σ 0 6) - 1)) = (-1)]) rfl ⟨c3, trivial⟩ ?_
      refine hV.pick [1] (ls' := [(0, .ref 0)]) rfl ?_
      exact p_X1_closeIf_J66 hV n res hP (sC σ 0 (am_u (σ 0) 6 ((σ 0 6) - 1))) (jat 4 (σ 15) ((σ 0 6) - 1)) (jat 4 (σ 14) ((σ 0 6) - 1)) h

def X1_outward (n : Nat) (σ : am_M) (a1 : Int32) : Option am_M := (X1_ask n σ a1 0 0).bind (fun q1 => (X1_need q1 18).bind (fun q2 => (X1_ask n q2 a1 1 0).bind (fun q3 => (X1_need q3 19).bind (fun q4 => (X1_ask n q4 a1 2 0).bind (fun q5 => (X1_bound q5 a1 20 1).bind (fun q6 => some q6))))))
set_option maxRecDepth 100000 in
set_option maxHeartbeats 4000000 in
theorem c_X1_outward (l : Launch) (n : Nat) (σ : am_M) (a1 : Int32) (res : am_M) (h : X1_outward n σ a1 = some res) : am_Con l yX1_outward cX1_outward 2 none 5 [.ref 0, .int a1] (wX1 σ) (fun (r : Option Value) (w : am_W) => r = none ∧ w = (wX1 res)) := by
  refine am_metn (n0 := 17) (own := RX1) (cd := am_cdT' tX1_outward) (rf := am_rfL rfX1) (ini := false) rfl (by decide +kernel) rfl (by decide) dX1_outward rfX1_ok (Nat.le_of_ble_eq_true rfl) ?_
  intro V hV
  have hP : (fun (r : Option Value) (w : am_W) => r = none ∧ w = (wX1 res)) none (wX1 res) := ⟨rfl, rfl⟩
  show V (wX1 σ) 0 [(0, .ref 0), (1, .int a1)] []
  unfold X1_outward at h
  refine hV.run 4 [] (ws' := wX1 σ) (pc' := 4) (ls' := [(0, .ref 0), (1, .int a1)]) (st' := [.int 0, .int 0, .int a1, .ref 0]) (ps := []) rfl trivial ?_
  obtain ⟨q1, hq1, h⟩ := am_bind h
  refine hV.cOv (as := [.int a1, .int 0, .int 0]) (rest := []) (st := [.int 0, .int 0, .int a1, .ref 0]) (ws2 := wX1 q1) (pc2 := 7) kX1_108 (c_X1_ask l n σ a1 0 0 q1 hq1) rfl rfl rfl rfl rfl rfl rfl rfl rfl ?_
  refine hV.run 2 [] (ws' := wX1 q1) (pc' := 10) (ls' := [(0, .ref 0), (1, .int a1)]) (st' := [.int 18, .ref 0]) (ps := []) rfl trivial ?_
  obtain ⟨q2, hq2, h⟩ := am_bind h
  refine hV.cOv (as := [.int 18]) (rest := []) (st := [.int 18, .ref 0]) (ws2 := wX1 q2) (pc2 := 13) kX1_101 (c_X1_need l q1 18 q2 hq2) rfl rfl rfl rfl rfl rfl rfl rfl rfl ?_
  refine hV.run 4 [] (ws' := wX1 q2) (pc' := 17) (ls' := [(0, .ref 0), (1, .int a1)]) (st' := [.int 0, .int 1, .int a1, .ref 0]) (ps := []) rfl trivial ?_
  obtain ⟨q3, hq3, h⟩ := am_bind h
  refine hV.cOv (as := [.int a1, .int 1, .int 0]) (rest := []) (st := [.int 0, .int 1, .int a1, .ref 0]) (ws2 := wX1 q3) (pc2 := 20) kX1_108 (c_X1_ask l n q2 a1 1 0 q3 hq3) rfl rfl rfl rfl rfl rfl rfl rfl rfl ?_
  refine hV.run 2 [] (ws' := wX1 q3) (pc' := 23) (ls' := [(0, .ref 0), (1, .int a1)]) (st' := [.int 19, .ref 0]) (ps := []) rfl trivial ?_
  obtain ⟨q4, hq4, h⟩ := am_bind h
  refine hV.cOv (as := [.int 19]) (rest := []) (st := [.int 19, .ref 0]) (ws2 := wX1 q4) (pc2 := 26) kX1_101 (c_X1_need l q3 19 q4 hq4) rfl rfl rfl rfl rfl rfl rfl rfl rfl ?_
  refine hV.run 4 [] (ws' := wX1 q4) (pc' := 30) (ls' := [(0, .ref 0), (1, .int a1)]) (st' := [.int 0, .int 2, .int a1, .ref 0]) (ps := []) rfl trivial ?_
  obtain ⟨q5, hq5, h⟩ := am_bind h
  refine hV.cOv (as := [.int a1, .int 2, .int 0]) (rest := []) (st := [.int 0, .int 2, .int a1, .ref 0]) (ws2 := wX1 q5) (pc2 := 33) kX1_108 (c_X1_ask l n q4 a1 2 0 q5 hq5) rfl rfl rfl rfl rfl rfl rfl rfl rfl ?_
  refine hV.run 4 [] (ws' := wX1 q5) (pc' := 38) (ls' := [(0, .ref 0), (1, .int a1)]) (st' := [.int 1, .int 20, .int a1, .ref 0]) (ps := []) rfl trivial ?_
  obtain ⟨q6, hq6, h⟩ := am_bind h
  refine hV.cOv (as := [.int a1, .int 20, .int 1]) (rest := []) (st := [.int 1, .int 20, .int a1, .ref 0]) (ws2 := wX1 q6) (pc2 := 41) kX1_115 (c_X1_bound l q5 a1 20 1 q6 hq6) rfl rfl rfl rfl rfl rfl rfl rfl rfl ?_
  cases h
  exact hV.rv rfl rfl rfl hP

def X1_inward_J12 (n : Nat) (σ : am_M) (l1 : Int32) : Option am_M := (X1_need σ 18).bind (fun q1 => (X1_ask n q1 l1 1 0).bind (fun q2 => (X1_need q2 21).bind (fun q3 => (X1_variable q3 l1).bind (fun q4 => (X1_bound q4 l1 22 99).bind (fun q5 => some q5)))))
set_option maxRecDepth 100000 in
set_option maxHeartbeats 4000000 in
theorem p_X1_inward_J12 {l : Launch} {Post : Option Value → am_W → Prop} {V : am_VT} (hV : am_B l RX1 false 5 (am_cdT' tX1_inward) (am_rfL rfX1) none Post 17 V) (n : Nat) (res : am_M) (hP : Post none (wX1 res)) (σ : am_M) (l1 : Int32) (h : X1_inward_J12 n σ l1 = some res) : V (wX1 σ) 12 [(0, .ref 0), (1, .int l1)] [] := by
  unfold X1_inward_J12 at h
  refine hV.run 2 [] (ws' := wX1 σ) (pc' := 15) (ls' := [(0, .ref 0), (1, .int l1)]) (st' := [.int 18, .ref 0]) (ps := []) rfl trivial ?_
  obtain ⟨q1, hq1, h⟩ := am_bind h
  refine hV.cOv (as := [.int 18]) (rest := []) (st := [.int 18, .ref 0]) (ws2 := wX1 q1) (pc2 := 18) kX1_101 (c_X1_need l σ 18 q1 hq1) rfl rfl rfl rfl rfl rfl rfl rfl rfl ?_
  refine hV.run 4 [] (ws' := wX1 q1) (pc' := 22) (ls' := [(0, .ref 0), (1, .int l1)]) (st' := [.int 0, .int 1, .int l1, .ref 0]) (ps := []) rfl trivial ?_
  obtain ⟨q2, hq2, h⟩ := am_bind h
  refine hV.cOv (as := [.int l1, .int 1, .int 0]) (rest := []) (st := [.int 0, .int 1, .int l1, .ref 0]) (ws2 := wX1 q2) (pc2 := 25) kX1_108 (c_X1_ask l n q1 l1 1 0 q2 hq2) rfl rfl rfl rfl rfl rfl rfl rfl rfl ?_
  refine hV.run 2 [] (ws' := wX1 q2) (pc' := 28) (ls' := [(0, .ref 0), (1, .int l1)]) (st' := [.int 21, .ref 0]) (ps := []) rfl trivial ?_
  obtain ⟨q3, hq3, h⟩ := am_bind h
  refine hV.cOv (as := [.int 21]) (rest := []) (st := [.int 21, .ref 0]) (ws2 := wX1 q3) (pc2 := 31) kX1_101 (c_X1_need l q2 21 q3 hq3) rfl rfl rfl rfl rfl rfl rfl rfl rfl ?_
  refine hV.run 2 [] (ws' := wX1 q3) (pc' := 33) (ls' := [(0, .ref 0), (1, .int l1)]) (st' := [.int l1, .ref 0]) (ps := []) rfl trivial ?_
  obtain ⟨q4, hq4, h⟩ := am_bind h
  refine hV.cOv (as := [.int l1]) (rest := []) (st := [.int l1, .ref 0]) (ws2 := wX1 q4) (pc2 := 36) kX1_119 (c_X1_variable l q3 l1 q4 hq4) rfl rfl rfl rfl rfl rfl rfl rfl rfl ?_
  refine hV.run 4 [] (ws' := wX1 q4) (pc' := 42) (ls' := [(0, .ref 0), (1, .int l1)]) (st' := [.int 99, .int 22, .int l1, .ref 0]) (ps := []) rfl trivial ?_
  obtain ⟨q5, hq5, h⟩ := am_bind h
  refine hV.cOv (as := [.int l1, .int 22, .int 99]) (rest := []) (st := [.int 99, .int 22, .int l1, .ref 0]) (ws2 := wX1 q5) (pc2 := 45) kX1_115 (c_X1_bound l q4 l1 22 99 q5 hq5) rfl rfl rfl rfl rfl rfl rfl rfl rfl ?_
  cases h
  exact hV.rv rfl rfl rfl hP
def X1_inward (n : Nat) (σ : am_M) (a1 : Int32) (a2 : Int32) : Option am_M := if a2 = 3 then (X1_ask n σ a1 0 0).bind (fun q2 => X1_inward_J12 n q2 a1) else (X1_inward_J12 n σ a1)
set_option maxRecDepth 100000 in
set_option maxHeartbeats 4000000 in
theorem c_X1_inward (l : Launch) (n : Nat) (σ : am_M) (a1 : Int32) (a2 : Int32) (res : am_M) (h : X1_inward n σ a1 a2 = some res) : am_Con l yX1_inward cX1_inward 3 none 5 [.ref 0, .int a1, .int a2] (wX1 σ) (fun (r : Option Value) (w : am_W) => r = none ∧ w = (wX1 res)) := by
  refine am_metn (n0 := 17) (own := RX1) (cd := am_cdT' tX1_inward) (rf := am_rfL rfX1) (ini := false) rfl (by decide +kernel) rfl (by decide) dX1_inward rfX1_ok (Nat.le_of_ble_eq_true rfl) ?_
  intro V hV
  have hP : (fun (r : Option Value) (w : am_W) => r = none ∧ w = (wX1 res)) none (wX1 res) := ⟨rfl, rfl⟩
  show V (wX1 σ) 0 [(0, .ref 0), (1, .int a1), (2, .int a2)] []
  unfold X1_inward at h
  by_cases c1 : a2 = 3
  · rw [if_pos c1] at h
    refine hV.run 7 [0] (ws' := wX1 σ) (pc' := 9) (ls' := [(0, .ref 0), (1, .int a1), (2, .int a2)]) (st' := [.int 0, .int 0, .int a1, .ref 0]) (ps := [a2 = 3]) rfl ⟨c1, trivial⟩ ?_
    obtain ⟨q2, hq2, h⟩ := am_bind h
    refine hV.cOv (as := [.int a1, .int 0, .int 0]) (rest := []) (st := [.int 0, .int 0, .int a1, .ref 0]) (ws2 := wX1 q2) (pc2 := 12) kX1_108 (c_X1_ask l n σ a1 0 0 q2 hq2) rfl rfl rfl rfl rfl rfl rfl rfl rfl ?_
    refine hV.pick [0, 1] (ls' := [(0, .ref 0), (1, .int a1)]) rfl ?_
    exact p_X1_inward_J12 hV n res hP q2 a1 h
  · rw [if_neg c1] at h
    refine hV.run 3 [1] (ws' := wX1 σ) (pc' := 12) (ls' := [(0, .ref 0), (1, .int a1), (2, .int a2)]) (st' := []) (ps := [¬ a2 = 3]) rfl ⟨c1, trivial⟩ ?_
    refine hV.pick [0, 1] (ls' := [(0, .ref 0), (1, .int a1)]) rfl ?_
    exact p_X1_inward_J12 hV n res hP σ a1 h

def X1_alone (n : Nat) (σ : am_M) (a1 : Int32) (a2 : Int32) : Option am_M := if a2 = 7 then (X1_ask n σ a1 2 0).bind (fun q2 => (X1_need q2 21).bind (fun q3 => (X1_variable q3 a1).bind (fun q4 => some q4))) else (if a2 = 8 then (X1_variable σ a1).bind (fun q6 => (X1_ask n q6 a1 2 1).bind (fun q7 => some q7)) else (if a2 = 9 then (X1_ask n σ a1 2 1).bind (fun q9 => some q9) else (some σ)))
set_option maxRecDepth 100000 in
set_option maxHeartbeats 4000000 in
theorem c_X1_alone (l : Launch) (n : Nat) (σ : am_M) (a1 : Int32) (a2 : Int32) (res : am_M) (h : X1_alone n σ a1 a2 = some res) : am_Con l yX1_alone cX1_alone 3 none 5 [.ref 0, .int a1, .int a2] (wX1 σ) (fun (r : Option Value) (w : am_W) => r = none ∧ w = (wX1 res)) := by
  refine am_metn (n0 := 17) (own := RX1) (cd := am_cdT' tX1_alone) (rf := am_rfL rfX1) (ini := false) rfl (by decide +kernel) rfl (by decide) dX1_alone rfX1_ok (Nat.le_of_ble_eq_true rfl) ?_
  intro V hV
  have hP : (fun (r : Option Value) (w : am_W) => r = none ∧ w = (wX1 res)) none (wX1 res) := ⟨rfl, rfl⟩
  show V (wX1 σ) 0 [(0, .ref 0), (1, .int a1), (2, .int a2)] []
  unfold X1_alone at h
  by_cases c1 : a2 = 7
  · rw [if_pos c1] at h
    refine hV.run 7 [0] (ws' := wX1 σ) (pc' := 10) (ls' := [(0, .ref 0), (1, .int a1), (2, .int a2)]) (st' := [.int 0, .int 2, .int a1, .ref 0]) (ps := [a2 = 7]) rfl ⟨c1, trivial⟩ ?_
    obtain ⟨q2, hq2, h⟩ := am_bind h
    refine hV.cOv (as := [.int a1, .int 2, .int 0]) (rest := []) (st := [.int 0, .int 2, .int a1, .ref 0]) (ws2 := wX1 q2) (pc2 := 13) kX1_108 (c_X1_ask l n σ a1 2 0 q2 hq2) rfl rfl rfl rfl rfl rfl rfl rfl rfl ?_
    refine hV.run 2 [] (ws' := wX1 q2) (pc' := 16) (ls' := [(0, .ref 0), (1, .int a1), (2, .int a2)]) (st' := [.int 21, .ref 0]) (ps := []) rfl trivial ?_
    obtain ⟨q3, hq3, h⟩ := am_bind h
    refine hV.cOv (as := [.int 21]) (rest := []) (st := [.int 21, .ref 0]) (ws2 := wX1 q3) (pc2 := 19) kX1_101 (c_X1_need l q2 21 q3 hq3) rfl rfl rfl rfl rfl rfl rfl rfl rfl ?_
    refine hV.run 2 [] (ws' := wX1 q3) (pc' := 21) (ls' := [(0, .ref 0), (1, .int a1), (2, .int a2)]) (st' := [.int a1, .ref 0]) (ps := []) rfl trivial ?_
    obtain ⟨q4, hq4, h⟩ := am_bind h
    refine hV.cOv (as := [.int a1]) (rest := []) (st := [.int a1, .ref 0]) (ws2 := wX1 q4) (pc2 := 24) kX1_119 (c_X1_variable l q3 a1 q4 hq4) rfl rfl rfl rfl rfl rfl rfl rfl rfl ?_
    refine hV.run 1 [] (ws' := wX1 q4) (pc' := 61) (ls' := [(0, .ref 0), (1, .int a1), (2, .int a2)]) (st' := []) (ps := []) rfl trivial ?_
    cases h
    exact hV.rv rfl rfl rfl hP
  · rw [if_neg c1] at h
    by_cases c5 : a2 = 8
    · rw [if_pos c5] at h
      refine hV.run 8 [1, 0] (ws' := wX1 σ) (pc' := 35) (ls' := [(0, .ref 0), (1, .int a1), (2, .int a2)]) (st' := [.int a1, .ref 0]) (ps := [¬ a2 = 7, a2 = 8]) rfl ⟨c1, c5, trivial⟩ ?_
      obtain ⟨q6, hq6, h⟩ := am_bind h
      refine hV.cOv (as := [.int a1]) (rest := []) (st := [.int a1, .ref 0]) (ws2 := wX1 q6) (pc2 := 38) kX1_119 (c_X1_variable l σ a1 q6 hq6) rfl rfl rfl rfl rfl rfl rfl rfl rfl ?_
      refine hV.run 4 [] (ws' := wX1 q6) (pc' := 42) (ls' := [(0, .ref 0), (1, .int a1), (2, .int a2)]) (st' := [.int 1, .int 2, .int a1, .ref 0]) (ps := []) rfl trivial ?_
      obtain ⟨q7, hq7, h⟩ := am_bind h
      refine hV.cOv (as := [.int a1, .int 2, .int 1]) (rest := []) (st := [.int 1, .int 2, .int a1, .ref 0]) (ws2 := wX1 q7) (pc2 := 45) kX1_108 (c_X1_ask l n q6 a1 2 1 q7 hq7) rfl rfl rfl rfl rfl rfl rfl rfl rfl ?_
      refine hV.run 1 [] (ws' := wX1 q7) (pc' := 61) (ls' := [(0, .ref 0), (1, .int a1), (2, .int a2)]) (st' := []) (ps := []) rfl trivial ?_
      cases h
      exact hV.rv rfl rfl rfl hP
    · rw [if_neg c5] at h
      by_cases c8 : a2 = 9
      · rw [if_pos c8] at h
        refine hV.run 13 [1, 1, 0] (ws' := wX1 σ) (pc' := 58) (ls' := [(0, .ref 0), (1, .int a1), (2, .int a2)]) (st' := [.int 1, .int 2, .int a1, .ref 0]) (ps := [¬ a2 = 7, ¬ a2 = 8, a2 = 9]) rfl ⟨c1, c5, c8, trivial⟩ ?_
        obtain ⟨q9, hq9, h⟩ := am_bind h
        refine hV.cOv (as := [.int a1, .int 2, .int 1]) (rest := []) (st := [.int 1, .int 2, .int a1, .ref 0]) (ws2 := wX1 q9) (pc2 := 61) kX1_108 (c_X1_ask l n σ a1 2 1 q9 hq9) rfl rfl rfl rfl rfl rfl rfl rfl rfl ?_
        cases h
        exact hV.rv rfl rfl rfl hP
      · rw [if_neg c8] at h
        refine hV.run 9 [1, 1, 1] (ws' := wX1 σ) (pc' := 61) (ls' := [(0, .ref 0), (1, .int a1), (2, .int a2)]) (st' := []) (ps := [¬ a2 = 7, ¬ a2 = 8, ¬ a2 = 9]) rfl ⟨c1, c5, c8, trivial⟩ ?_
        cases h
        exact hV.rv rfl rfl rfl hP

def X1_oneStep_J26 (n : Nat) (σ : am_M) : Option am_M := (X1_refuse σ 2).bind (fun q1 => some q1)
set_option maxRecDepth 100000 in
set_option maxHeartbeats 4000000 in
theorem p_X1_oneStep_J26 {l : Launch} {Post : Option Value → am_W → Prop} {V : am_VT} (hV : am_B l RX1 false 6 (am_cdT' tX1_oneStep) (am_rfL rfX1) none Post 17 V) (n : Nat) (res : am_M) (hP : Post none (wX1 res)) (σ : am_M) (h : X1_oneStep_J26 n σ = some res) : V (wX1 σ) 26 [(0, .ref 0)] [] := by
  unfold X1_oneStep_J26 at h
  refine hV.run 2 [] (ws' := wX1 σ) (pc' := 28) (ls' := [(0, .ref 0)]) (st' := [.int 2, .ref 0]) (ps := []) rfl trivial ?_
  obtain ⟨q1, hq1, h⟩ := am_bind h
  refine hV.cOv (as := [.int 2]) (rest := []) (st := [.int 2, .ref 0]) (ws2 := wX1 q1) (pc2 := 31) kX1_65 (c_X1_refuse l σ 2 q1 hq1) rfl rfl rfl rfl rfl rfl rfl rfl rfl ?_
  cases h
  exact hV.rv rfl rfl rfl hP
def X1_oneStep_J93 (n : Nat) (σ : am_M) : Option am_M := (X1_need σ 159).bind (fun q1 => some q1)
set_option maxRecDepth 100000 in
set_option maxHeartbeats 4000000 in
theorem p_X1_oneStep_J93 {l : Launch} {Post : Option Value → am_W → Prop} {V : am_VT} (hV : am_B l RX1 false 6 (am_cdT' tX1_oneStep) (am_rfL rfX1) none Post 17 V) (n : Nat) (res : am_M) (hP : Post none (wX1 res)) (σ : am_M) (h : X1_oneStep_J93 n σ = some res) : V (wX1 σ) 93 [(0, .ref 0)] [] := by
  unfold X1_oneStep_J93 at h
  refine hV.run 2 [] (ws' := wX1 σ) (pc' := 97) (ls' := [(0, .ref 0)]) (st' := [.int 159, .ref 0]) (ps := []) rfl trivial ?_
  obtain ⟨q1, hq1, h⟩ := am_bind h
  refine hV.cOv (as := [.int 159]) (rest := []) (st := [.int 159, .ref 0]) (ws2 := wX1 q1) (pc2 := 100) kX1_101 (c_X1_need l σ 159 q1 hq1) rfl rfl rfl rfl rfl rfl rfl rfl rfl ?_
  cases h
  exact hV.rv rfl rfl rfl hP
def X1_oneStep_J32 (n : Nat) (σ : am_M) (l1 : Int32) : Option am_M := (X3_open n (am_sub σ 6) l1).bind (fun q1 => (X5_advance (am_sub (am_put σ 6 8 q1.2) 1)).bind (fun q2 => if l1 = 10 then (X1_openIf n (am_put (am_put σ 6 8 q1.2) 1 5 q2) q1.1).bind (fun q4 => some q4) else (if 2 < l1 then (if 4 < l1 then (X1_alone n (am_put (am_put σ 6 8 q1.2) 1 5 q2) q1.1 l1).bind (fun q7 => X1_oneStep_J93 n q7) else (X1_inward n (am_put (am_put σ 6 8 q1.2) 1 5 q2) q1.1 l1).bind (fun q8 => X1_oneStep_J93 n q8)) else (X1_outward n (am_put (am_put σ 6 8 q1.2) 1 5 q2) q1.1).bind (fun q9 => X1_oneStep_J93 n q9))))
set_option maxRecDepth 100000 in
set_option maxHeartbeats 4000000 in
theorem p_X1_oneStep_J32 {l : Launch} {Post : Option Value → am_W → Prop} {V : am_VT} (hV : am_B l RX1 false 6 (am_cdT' tX1_oneStep) (am_rfL rfX1) none Post 17 V) (n : Nat) (res : am_M) (hP : Post none (wX1 res)) (σ : am_M) (l1 : Int32) (h : X1_oneStep_J32 n σ l1 = some res) : V (wX1 σ) 32 [(0, .ref 0), (1, .int l1)] [] := by
  unfold X1_oneStep_J32 at h
  refine hV.run 3 [] (ws' := wX1 σ) (pc' := 37) (ls' := [(0, .ref 0), (1, .int l1)]) (st' := [.int l1, .ref 6]) (ps := []) rfl trivial ?_
  obtain ⟨q1, hq1, h⟩ := am_bind h
  refine hV.cBi 6 8 [] (as := [.int l1]) (rest := []) (st := [.int l1, .ref 6]) (ws2 := wX1 (am_put σ 6 8 q1.2)) (pc2 := 40) kX1_84 (c_X3_open l n (am_sub σ 6) l1 q1 hq1) rfl rfl rfl rfl rfl rfl rfl rfl rfl rfl rfl rfl rfl rfl ?_
  refine hV.run 3 [] (ws' := wX1 (am_put σ 6 8 q1.2)) (pc' := 45) (ls' := [(2, .int q1.1), (0, .ref 0), (1, .int l1)]) (st' := [.ref 1]) (ps := []) rfl trivial ?_
  obtain ⟨q2, hq2, h⟩ := am_bind h
  refine hV.cBv 1 5 [] (as := []) (rest := []) (st := [.ref 1]) (ws2 := wX1 (am_put (am_put σ 6 8 q1.2) 1 5 q2)) (pc2 := 48) kX1_78 (c_X5_advance l (am_sub (am_put σ 6 8 q1.2) 1) q2 hq2) rfl rfl rfl rfl rfl rfl rfl rfl rfl rfl rfl rfl rfl rfl ?_
  by_cases c3 : l1 = 10
  · rw [if_pos c3] at h
    refine hV.run 5 [0] (ws' := wX1 (am_put (am_put σ 6 8 q1.2) 1 5 q2)) (pc' := 56) (ls' := [(2, .int q1.1), (0, .ref 0), (1, .int l1)]) (st' := [.int q1.1, .ref 0]) (ps := [l1 = 10]) rfl ⟨c3, trivial⟩ ?_
    obtain ⟨q4, hq4, h⟩ := am_bind h
    refine hV.cOv (as := [.int q1.1]) (rest := []) (st := [.int q1.1, .ref 0]) (ws2 := wX1 q4) (pc2 := 59) kX1_88 (c_X1_openIf l n (am_put (am_put σ 6 8 q1.2) 1 5 q2) q1.1 q4 hq4) rfl rfl rfl rfl rfl rfl rfl rfl rfl ?_
    cases h
    exact hV.rv rfl rfl rfl hP
  · rw [if_neg c3] at h
    by_cases c5 : 2 < l1
    · rw [if_pos c5] at h
      by_cases c6 : 4 < l1
      · rw [if_pos c6] at h
        refine hV.run 12 [1, 1, 1] (ws' := wX1 (am_put (am_put σ 6 8 q1.2) 1 5 q2)) (pc' := 90) (ls' := [(2, .int q1.1), (0, .ref 0), (1, .int l1)]) (st' := [.int l1, .int q1.1, .ref 0]) (ps := [¬ l1 = 10, 2 < l1, 4 < l1]) rfl ⟨c3, c5, c6, trivial⟩ ?_
        obtain ⟨q7, hq7, h⟩ := am_bind h
        refine hV.cOv (as := [.int q1.1, .int l1]) (rest := []) (st := [.int l1, .int q1.1, .ref 0]) (ws2 := wX1 q7) (pc2 := 93) kX1_98 (c_X1_alone l n (am_put (am_put σ 6 8 q1.2) 1 5 q2) q1.1 l1 q7 hq7) rfl rfl rfl rfl rfl rfl rfl rfl rfl ?_
        refine hV.pick [1] (ls' := [(0, .ref 0)]) rfl ?_
        exact p_X1_oneStep_J93 hV n res hP q7 h
      · rw [if_neg c6] at h
        refine hV.run 12 [1, 1, 0] (ws' := wX1 (am_put (am_put σ 6 8 q1.2) 1 5 q2)) (pc' := 81) (ls' := [(2, .int q1.1), (0, .ref 0), (1, .int l1)]) (st' := [.int l1, .int q1.1, .ref 0]) (ps := [¬ l1 = 10, 2 < l1, ¬ 4 < l1]) rfl ⟨c3, c5, c6, trivial⟩ ?_
        obtain ⟨q8, hq8, h⟩ := am_bind h
        refine hV.cOv (as := [.int q1.1, .int l1]) (rest := []) (st := [.int l1, .int q1.1, .ref 0]) (ws2 := wX1 q8) (pc2 := 84) kX1_94 (c_X1_inward l n (am_put (am_put σ 6 8 q1.2) 1 5 q2) q1.1 l1 q8 hq8) rfl rfl rfl rfl rfl rfl rfl rfl rfl ?_
        refine hV.run 1 [] (ws' := wX1 q8) (pc' := 93) (ls' := [(2, .int q1.1), (0, .ref 0), (1, .int l1)]) (st' := []) (ps := []) rfl trivial ?_
        refine hV.pick [1] (ls' := [(0, .ref 0)]) rfl ?_
        exact p_X1_oneStep_J93 hV n res hP q8 h
    · rw [if_neg c5] at h
      refine hV.run 8 [1, 0] (ws' := wX1 (am_put (am_put σ 6 8 q1.2) 1 5 q2)) (pc' := 67) (ls' := [(2, .int q1.1), (0, .ref 0), (1, .int l1)]) (st' := [.int q1.1, .ref 0]) (ps := [¬ l1 = 10, ¬ 2 < l1]) rfl ⟨c3, c5, trivial⟩ ?_
      obtain ⟨q9, hq9, h⟩ := am_bind h
      refine hV.cOv (as := [.int q1.1]) (rest := []) (st := [.int q1.1, .ref 0]) (ws2 := wX1 q9) (pc2 := 70) kX1_91 (c_X1_outward l n (am_put (am_put σ 6 8 q1.2) 1 5 q2) q1.1 q9 hq9) rfl rfl rfl rfl rfl rfl rfl rfl rfl ?_
      refine hV.run 1 [] (ws' := wX1 q9) (pc' := 93) (ls' := [(2, .int q1.1), (0, .ref 0), (1, .int l1)]) (st' := []) (ps := []) rfl trivial ?_
      refine hV.pick [1] (ls' := [(0, .ref 0)]) rfl ?_
      exact p_X1_oneStep_J93 hV n res hP q9 h
def X1_oneStep (n : Nat) (σ : am_M) (a1 : Int32) : Option am_M := if 40 ≤ (σ 6 7) then (X1_oneStep_J26 n σ) else (if a1 = 10 then (if (σ 0 6) < 4 then (X1_oneStep_J32 n σ a1) else (X1_oneStep_J26 n σ)) else (X1_oneStep_J32 n σ a1))
set_option maxRecDepth 100000 in
set_option maxHeartbeats 4000000 in
theorem c_X1_oneStep (l : Launch) (n : Nat) (σ : am_M) (a1 : Int32) (res : am_M) (h : X1_oneStep n σ a1 = some res) : am_Con l yX1_oneStep cX1_oneStep 3 none 6 [.ref 0, .int a1] (wX1 σ) (fun (r : Option Value) (w : am_W) => r = none ∧ w = (wX1 res)) := by
  refine am_metn (n0 := 17) (own := RX1) (cd := am_cdT' tX1_oneStep) (rf := am_rfL rfX1) (ini := false) rfl (by decide +kernel) rfl (by decide) dX1_oneStep rfX1_ok (Nat.le_of_ble_eq_true rfl) ?_
  intro V hV
  have hP : (fun (r : Option Value) (w : am_W) => r = none ∧ w = (wX1 res)) none (wX1 res) := ⟨rfl, rfl⟩
  show V (wX1 σ) 0 [(0, .ref 0), (1, .int a1)] []
  unfold X1_oneStep at h
  by_cases c1 : 40 ≤ (σ 6 7)
  · rw [if_pos c1] at h
    refine hV.run 5 [1] (ws' := wX1 σ) (pc' := 26) (ls' := [(0, .ref 0), (1, .int a1)]) (st' := []) (ps := [40 ≤ (σ 6 7)]) rfl ⟨c1, trivial⟩ ?_
    refine hV.pick [0] (ls' := [(0, .ref 0)]) rfl ?_
    exact p_X1_oneStep_J26 hV n res hP σ h
  · rw [if_neg c1] at h
    by_cases c2 : a1 = 10
    · rw [if_pos c2] at h
      by_cases c3 : (σ 0 6) < 4
      · rw [if_pos c3] at h
        refine hV.run 12 [0, 0, 1] (ws' := wX1 σ) (pc' := 32) (ls' := [(0, .ref 0), (1, .int a1)]) (st' := []) (ps := [¬ 40 ≤ (σ 6 7), a1 = 10, (σ 0 6) < 4]) rfl ⟨c1, c2, c3, trivial⟩ ?_
        exact p_X1_oneStep_J32 hV n res hP σ a1 h
      · rw [if_neg c3] at h
        refine hV.run 12 [0, 0, 0] (ws' := wX1 σ) (pc' := 26) (ls' := [(0, .ref 0), (1, .int a1)]) (st' := []) (ps := [¬ 40 ≤ (σ 6 7), a1 = 10, ¬ (σ 0 6) < 4]) rfl ⟨c1, c2, c3, trivial⟩ ?_
        refine hV.pick [0] (ls' := [(0, .ref 0)]) rfl ?_
        exact p_X1_oneStep_J26 hV n res hP σ h
    · rw [if_neg c2] at h
      refine hV.run 8 [0, 1] (ws' := wX1 σ) (pc' := 32) (ls' := [(0, .ref 0), (1, .int a1)]) (st' := []) (ps := [¬ 40 ≤ (σ 6 7), ¬ a1 = 10]) rfl ⟨c1, c2, trivial⟩ ?_
      exact p_X1_oneStep_J32 hV n res hP σ a1 h

def X1_read_J129 (n : Nat) (σ : am_M) : Option (Int32 × am_M) := some ((σ 0 2), σ)
set_option maxRecDepth 100000 in
set_option maxHeartbeats 4000000 in
theorem p_X1_read_J129 {l : Launch} {Post : Option Value → am_W → Prop} {V : am_VT} (hV : am_B l RX1 false 9 (am_cdT' tX1_read) (am_rfL rfX1) (some .int) Post 17 V) (n : Nat) (res : (Int32 × am_M)) (hP : Post (some (.int res.1)) (wX1 res.2)) (σ : am_M) (h : X1_read_J129 n σ = some res) : V (wX1 σ) 129 [(0, .ref 0)] [] := by
  unfold X1_read_J129 at h
  refine hV.run 2 [] (ws' := wX1 σ) (pc' := 133) (ls' := [(0, .ref 0)]) (st' := [.int (σ 0 2)]) (ps := []) rfl trivial ?_
  cases h
  exact hV.ri rfl rfl rfl hP
def X1_read_J117 (n : Nat) (σ : am_M) : Option (Int32 × am_M) := if (σ 0 6) ≤ 0 then (X1_read_J129 n σ) else (X1_refuse σ 1).bind (fun q2 => X1_read_J129 n q2)
set_option maxRecDepth 100000 in
set_option maxHeartbeats 4000000 in
theorem p_X1_read_J117 {l : Launch} {Post : Option Value → am_W → Prop} {V : am_VT} (hV : am_B l RX1 false 9 (am_cdT' tX1_read) (am_rfL rfX1) (some .int) Post 17 V) (n : Nat) (res : (Int32 × am_M)) (hP : Post (some (.int res.1)) (wX1 res.2)) (σ : am_M) (h : X1_read_J117 n σ = some res) : V (wX1 σ) 117 [(0, .ref 0)] [] := by
  unfold X1_read_J117 at h
  by_cases c1 : (σ 0 6) ≤ 0
  · rw [if_pos c1] at h
    refine hV.run 3 [1] (ws' := wX1 σ) (pc' := 129) (ls' := [(0, .ref 0)]) (st' := []) (ps := [(σ 0 6) ≤ 0]) rfl ⟨c1, trivial⟩ ?_
    exact p_X1_read_J129 hV n res hP σ h
  · rw [if_neg c1] at h
    refine hV.run 5 [0] (ws' := wX1 σ) (pc' := 126) (ls' := [(0, .ref 0)]) (st' := [.int 1, .ref 0]) (ps := [¬ (σ 0 6) ≤ 0]) rfl ⟨c1, trivial⟩ ?_
    obtain ⟨q2, hq2, h⟩ := am_bind h
    refine hV.cOv (as := [.int 1]) (rest := []) (st := [.int 1, .ref 0]) (ws2 := wX1 q2) (pc2 := 129) kX1_65 (c_X1_refuse l σ 1 q2 hq2) rfl rfl rfl rfl rfl rfl rfl rfl rfl ?_
    exact p_X1_read_J129 hV n res hP q2 h
def X1_read_J111 (n : Nat) (kont32 : am_M → Int32 → Option (Int32 × am_M)) (σ : am_M) (l2 : Int32) : Option (Int32 × am_M) := kont32 σ (l2 + 1)
set_option maxRecDepth 100000 in
set_option maxHeartbeats 4000000 in
theorem p_X1_read_J111 {l : Launch} {Post : Option Value → am_W → Prop} {V : am_VT} (hV : am_B l RX1 false 9 (am_cdT' tX1_read) (am_rfL rfX1) (some .int) Post 17 V) (n : Nat) (res : (Int32 × am_M)) (hP : Post (some (.int res.1)) (wX1 res.2)) (kont32 : am_M → Int32 → Option (Int32 × am_M)) (hk32 : ∀ (σ : am_M) (l2 : Int32), kont32 σ l2 = some res → V (wX1 σ) 32 [(0, .ref 0), (2, .int l2)] []) (σ : am_M) (l2 : Int32) (h : X1_read_J111 n kont32 σ l2 = some res) : V (wX1 σ) 111 [(0, .ref 0), (2, .int l2)] [] := by
  unfold X1_read_J111 at h
  refine hV.run 2 [] (ws' := wX1 σ) (pc' := 32) (ls' := [(2, .int (l2 + 1)), (0, .ref 0)]) (st' := []) (ps := []) rfl trivial ?_
  refine hV.pick [1, 0] (ls' := [(0, .ref 0), (2, .int (l2 + 1))]) rfl ?_
  exact hk32 σ (l2 + 1) h
def X1_read_B32 (n : Nat) (kont32 : am_M → Int32 → Option (Int32 × am_M)) (σ : am_M) (l2 : Int32) : Option (Int32 × am_M) := if 700 < l2 then (X1_read_J117 n σ) else (if (σ 0 2) = 0 then (if (X5_sort (am_sub σ 1)) = 28 then (X1_read_J117 n σ) else (if 10 < (X5_sort (am_sub σ 1)) then (if (X5_sort (am_sub σ 1)) = 24 then (X1_turnIf σ).bind (fun q6 => X1_read_J111 n kont32 q6 l2) else (if (X5_sort (am_sub σ 1)) = 25 then (X1_closeIf n σ).bind (fun q8 => X1_read_J111 n kont32 q8 l2) else (X1_refuse σ 1).bind (fun q9 => X1_read_J111 n kont32 q9 l2))) else (X1_oneStep n σ (X5_sort (am_sub σ 1))).bind (fun q10 => X1_read_J111 n kont32 q10 l2))) else (X1_read_J117 n σ))
def X1_read_L32 (n : Nat) : Nat → am_M → Int32 → Option (Int32 × am_M)
 | 0 => fun _ _ => none
 | k + 1 => fun σ l2 => X1_read_B32 n (X1_read_L32 n k) σ l2
set_option maxRecDepth 100000 in
set_option maxHeartbeats 4000000 in
theorem p_X1_read_B32 {l : Launch} {Post : Option Value → am_W → Prop} {V : am_VT} (hV : am_B l RX1 false 9 (am_cdT' tX1_read) (am_rfL rfX1) (some .int) Post 17 V) (n : Nat) (res : (Int32 × am_M)) (hP : Post (some (.int res.1)) (wX1 res.2)) (kont32 : am_M → Int32 → Option (Int32 × am_M)) (hk32 : ∀ (σ : am_M) (l2 : Int32), kont32 σ l2 = some res → V (wX1 σ) 32 [(0, .ref 0), (2, .int l2)] []) (σ : am_M) (l2 : Int32) (h : X1_read_B32 n kont32 σ l2 = some res) : V (wX1 σ) 32 [(0, .ref 0), (2, .int l2)] [] := by
  unfold X1_read_B32 at h
  by_cases c1 : 700 < l2
  · rw [if_pos c1] at h
    refine hV.run 3 [1] (ws' := wX1 σ) (pc' := 117) (ls' := [(0, .ref 0), (2, .int l2)]) (st' := []) (ps := [700 < l2]) rfl ⟨c1, trivial⟩ ?_
    refine hV.pick [0] (ls' := [(0, .ref 0)]) rfl ?_
    exact p_X1_read_J117 hV n res hP σ h
  · rw [if_neg c1] at h
    by_cases c2 : (σ 0 2) = 0
    · rw [if_pos c2] at h
      refine hV.run 8 [0, 0] (ws' := wX1 σ) (pc' := 50) (ls' := [(0, .ref 0), (2, .int l2)]) (st' := [.ref 1]) (ps := [¬ 700 < l2, (σ 0 2) = 0]) rfl ⟨c1, c2, trivial⟩ ?_
      refine hV.cBi 1 5 [] (as := []) (rest := []) (st := [.ref 1]) (ws2 := wX1 σ) (pc2 := 53) kX1_52 (c_X5_sort l (am_sub σ 1)) rfl rfl rfl rfl rfl rfl rfl rfl rfl rfl rfl rfl rfl rfl ?_
      by_cases c3 : (X5_sort (am_sub σ 1)) = 28
      · rw [if_pos c3] at h
        refine hV.run 2 [1] (ws' := wX1 σ) (pc' := 117) (ls' := [(0, .ref 0), (2, .int l2)]) (st' := []) (ps := [(X5_sort (am_sub σ 1)) = 28]) rfl ⟨c3, trivial⟩ ?_
        refine hV.pick [0] (ls' := [(0, .ref 0)]) rfl ?_
        exact p_X1_read_J117 hV n res hP σ h
      · rw [if_neg c3] at h
        refine hV.run 4 [0] (ws' := wX1 σ) (pc' := 62) (ls' := [(0, .ref 0), (2, .int l2)]) (st' := [.ref 1]) (ps := [¬ (X5_sort (am_sub σ 1)) = 28]) rfl ⟨c3, trivial⟩ ?_
        refine hV.cBi 1 5 [] (as := []) (rest := []) (st := [.ref 1]) (ws2 := wX1 σ) (pc2 := 65) kX1_52 (c_X5_sort l (am_sub σ 1)) rfl rfl rfl rfl rfl rfl rfl rfl rfl rfl rfl rfl rfl rfl ?_
        by_cases c4 : 10 < (X5_sort (am_sub σ 1))
        · rw [if_pos c4] at h
          by_cases c5 : (X5_sort (am_sub σ 1)) = 24
          · rw [if_pos c5] at h
            refine hV.run 8 [1, 0] (ws' := wX1 σ) (pc' := 87) (ls' := [(3, .int (X5_sort (am_sub σ 1))), (0, .ref 0), (2, .int l2)]) (st' := [.ref 0]) (ps := [10 < (X5_sort (am_sub σ 1)), (X5_sort (am_sub σ 1)) = 24]) rfl ⟨c4, c5, trivial⟩ ?_
            obtain ⟨q6, hq6, h⟩ := am_bind h
            refine hV.cOv (as := []) (rest := []) (st := [.ref 0]) (ws2 := wX1 q6) (pc2 := 90) kX1_59 (c_X1_turnIf l σ q6 hq6) rfl rfl rfl rfl rfl rfl rfl rfl rfl ?_
            refine hV.run 1 [] (ws' := wX1 q6) (pc' := 111) (ls' := [(3, .int (X5_sort (am_sub σ 1))), (0, .ref 0), (2, .int l2)]) (st' := []) (ps := []) rfl trivial ?_
            refine hV.pick [1, 2] (ls' := [(0, .ref 0), (2, .int l2)]) rfl ?_
            exact p_X1_read_J111 hV n res hP kont32 hk32 q6 l2 h
          · rw [if_neg c5] at h
            by_cases c7 : (X5_sort (am_sub σ 1)) = 25
            · rw [if_pos c7] at h
              refine hV.run 11 [1, 1, 0] (ws' := wX1 σ) (pc' := 100) (ls' := [(3, .int (X5_sort (am_sub σ 1))), (0, .ref 0), (2, .int l2)]) (st' := [.ref 0]) (ps := [10 < (X5_sort (am_sub σ 1)), ¬ (X5_sort (am_sub σ 1)) = 24, (X5_sort (am_sub σ 1)) = 25]) rfl ⟨c4, c5, c7, trivial⟩ ?_
              obtain ⟨q8, hq8, h⟩ := am_bind h
              refine hV.cOv (as := []) (rest := []) (st := [.ref 0]) (ws2 := wX1 q8) (pc2 := 103) kX1_62 (c_X1_closeIf l n σ q8 hq8) rfl rfl rfl rfl rfl rfl rfl rfl rfl ?_
              refine hV.run 1 [] (ws' := wX1 q8) (pc' := 111) (ls' := [(3, .int (X5_sort (am_sub σ 1))), (0, .ref 0), (2, .int l2)]) (st' := []) (ps := []) rfl trivial ?_
              refine hV.pick [1, 2] (ls' := [(0, .ref 0), (2, .int l2)]) rfl ?_
              exact p_X1_read_J111 hV n res hP kont32 hk32 q8 l2 h
            · rw [if_neg c7] at h
              refine hV.run 12 [1, 1, 1] (ws' := wX1 σ) (pc' := 108) (ls' := [(3, .int (X5_sort (am_sub σ 1))), (0, .ref 0), (2, .int l2)]) (st' := [.int 1, .ref 0]) (ps := [10 < (X5_sort (am_sub σ 1)), ¬ (X5_sort (am_sub σ 1)) = 24, ¬ (X5_sort (am_sub σ 1)) = 25]) rfl ⟨c4, c5, c7, trivial⟩ ?_
              obtain ⟨q9, hq9, h⟩ := am_bind h
              refine hV.cOv (as := [.int 1]) (rest := []) (st := [.int 1, .ref 0]) (ws2 := wX1 q9) (pc2 := 111) kX1_65 (c_X1_refuse l σ 1 q9 hq9) rfl rfl rfl rfl rfl rfl rfl rfl rfl ?_
              refine hV.pick [1, 2] (ls' := [(0, .ref 0), (2, .int l2)]) rfl ?_
              exact p_X1_read_J111 hV n res hP kont32 hk32 q9 l2 h
        · rw [if_neg c4] at h
          refine hV.run 6 [0] (ws' := wX1 σ) (pc' := 74) (ls' := [(3, .int (X5_sort (am_sub σ 1))), (0, .ref 0), (2, .int l2)]) (st' := [.int (X5_sort (am_sub σ 1)), .ref 0]) (ps := [¬ 10 < (X5_sort (am_sub σ 1))]) rfl ⟨c4, trivial⟩ ?_
          obtain ⟨q10, hq10, h⟩ := am_bind h
          refine hV.cOv (as := [.int (X5_sort (am_sub σ 1))]) (rest := []) (st := [.int (X5_sort (am_sub σ 1)), .ref 0]) (ws2 := wX1 q10) (pc2 := 77) kX1_56 (c_X1_oneStep l n σ (X5_sort (am_sub σ 1)) q10 hq10) rfl rfl rfl rfl rfl rfl rfl rfl rfl ?_
          refine hV.run 1 [] (ws' := wX1 q10) (pc' := 111) (ls' := [(3, .int (X5_sort (am_sub σ 1))), (0, .ref 0), (2, .int l2)]) (st' := []) (ps := []) rfl trivial ?_
          refine hV.pick [1, 2] (ls' := [(0, .ref 0), (2, .int l2)]) rfl ?_
          exact p_X1_read_J111 hV n res hP kont32 hk32 q10 l2 h
    · rw [if_neg c2] at h
      refine hV.run 6 [0, 1] (ws' := wX1 σ) (pc' := 117) (ls' := [(0, .ref 0), (2, .int l2)]) (st' := []) (ps := [¬ 700 < l2, ¬ (σ 0 2) = 0]) rfl ⟨c1, c2, trivial⟩ ?_
      refine hV.pick [0] (ls' := [(0, .ref 0)]) rfl ?_
      exact p_X1_read_J117 hV n res hP σ h
theorem p_X1_read_L32 {l : Launch} {Post : Option Value → am_W → Prop} {V : am_VT} (hV : am_B l RX1 false 9 (am_cdT' tX1_read) (am_rfL rfX1) (some .int) Post 17 V) (n : Nat) (res : (Int32 × am_M)) (hP : Post (some (.int res.1)) (wX1 res.2)) : ∀ (k : Nat) (σ : am_M) (l2 : Int32) (h : X1_read_L32 n k σ l2 = some res), V (wX1 σ) 32 [(0, .ref 0), (2, .int l2)] [] := by
  intro k
  induction k with
  | zero => intro σ l2 h; cases h
  | succ k ih => intro σ l2 h; exact p_X1_read_B32 hV n res hP _ ih σ l2 h
def X1_read (n : Nat) (σ : am_M) (a1 : Int32) : Option (Int32 × am_M) := (X3_clear (am_sub σ 6)).bind (fun q1 => (X5_scan n (am_sub (am_put σ 6 8 q1) 1) a1).bind (fun q2 => X1_read_L32 n n (sC (am_put (am_put σ 6 8 q1) 1 5 q2) 0 (am_u (am_u (am_u ((am_put (am_put σ 6 8 q1) 1 5 q2) 0) 2 0) 3 (-1)) 6 0)) 0))
set_option maxRecDepth 100000 in
set_option maxHeartbeats 4000000 in
theorem c_X1_read (l : Launch) (n : Nat) (σ : am_M) (a1 : Int32) (res : (Int32 × am_M)) (h : X1_read n σ a1 = some res) : am_Con l yX1_read cX1_read 4 (some .int) 9 [.ref 0, .int a1] (wX1 σ) (fun (r : Option Value) (w : am_W) => r = (some (.int res.1)) ∧ w = (wX1 res.2)) := by
  refine am_metn (n0 := 17) (own := RX1) (cd := am_cdT' tX1_read) (rf := am_rfL rfX1) (ini := false) rfl (by decide +kernel) rfl (by decide) dX1_read rfX1_ok (Nat.le_of_ble_eq_true rfl) ?_
  intro V hV
  have hP : (fun (r : Option Value) (w : am_W) => r = (some (.int res.1)) ∧ w = (wX1 res.2)) (some (.int res.1)) (wX1 res.2) := ⟨rfl, rfl⟩
  show V (wX1 σ) 0 [(0, .ref 0), (1, .int a1)] []
  unfold X1_read at h
  refine hV.run 2 [] (ws' := wX1 σ) (pc' := 4) (ls' := [(0, .ref 0), (1, .int a1)]) (st' := [.ref 6]) (ps := []) rfl trivial ?_
  obtain ⟨q1, hq1, h⟩ := am_bind h
  refine hV.cBv 6 8 [] (as := []) (rest := []) (st := [.ref 6]) (ws2 := wX1 (am_put σ 6 8 q1)) (pc2 := 7) kX1_39 (c_X3_clear l (am_sub σ 6) q1 hq1) rfl rfl rfl rfl rfl rfl rfl rfl rfl rfl rfl rfl rfl rfl ?_
  refine hV.run 3 [] (ws' := wX1 (am_put σ 6 8 q1)) (pc' := 12) (ls' := [(0, .ref 0), (1, .int a1)]) (st' := [.int a1, .ref 1]) (ps := []) rfl trivial ?_
  obtain ⟨q2, hq2, h⟩ := am_bind h
  refine hV.cBv 1 5 [] (as := [.int a1]) (rest := []) (st := [.int a1, .ref 1]) (ws2 := wX1 (am_put (am_put σ 6 8 q1) 1 5 q2)) (pc2 := 15) kX1_42 (c_X5_scan l n (am_sub (am_put σ 6 8 q1) 1) a1 q2 hq2) rfl rfl rfl rfl rfl rfl rfl rfl rfl rfl rfl rfl rfl rfl ?_
  refine hV.run 11 [] (ws' := wX1 (sC (am_put (am_put σ 6 8 q1) 1 5 q2) 0 (am_u (am_u (am_u ((am_put (am_put σ 6 8 q1) 1 5 q2) 0) 2 0) 3 (-1)) 6 0))) (pc' := 32) (ls' := [(2, .int 0), (0, .ref 0), (1, .int a1)]) (st' := []) (ps := []) rfl trivial ?_
  refine hV.pick [1, 0] (ls' := [(0, .ref 0), (2, .int 0)]) rfl ?_
  exact p_X1_read_L32 hV n res hP n (sC (am_put (am_put σ 6 8 q1) 1 5 q2) 0 (am_u (am_u (am_u ((am_put (am_put σ 6 8 q1) 1 5 q2) 0) 2 0) 3 (-1)) 6 0)) 0 h

