def X2_lay (n : Nat) (σ : am_M) (a1 : Int32) (a2 : Int32) : Option am_M := (X2_tick σ a1 1).bind (fun q1 => (X6_add n (am_sub q1 2) (X6_pair a1 (X2_get σ a1 10)) (X2_get q1 a1 11) (X2_get q1 a1 12) (((jat 40 (q1 16) (X2_get q1 a1 0)) <<< 1) ||| a2) ((jat 8 (q1 8) a1) + (X2_far q1 a1 (X2_get σ a1 10)))).bind (fun q2 => (X2_hasDone (am_put q1 2 5 q2) a1).bind (fun q3 => some q3)))
set_option maxRecDepth 100000 in
set_option maxHeartbeats 4000000 in
theorem c_X2_lay (l : Launch) (n : Nat) (σ : am_M) (τ : Nat → Int64) (a1 : Int32) (a2 : Int32) (res : am_M) (h : X2_lay n σ a1 a2 = some res) : am_Con l yX2_lay cX2_lay 6 none 4 [.ref 0, .int a1, .int a2] (wX2 11 σ τ) (fun (r : Option Value) (w : am_W) => r = none ∧ w = (wX2 11 res τ)) := by
  refine am_metn (n0 := 19) (own := RX2) (cd := am_cdT' tX2_lay) (rf := am_rfL rfX2) (ini := false) rfl (by decide +kernel) rfl (by decide) dX2_lay rfX2_ok (Nat.le_of_ble_eq_true rfl) ?_
  intro V hV
  have hP : (fun (r : Option Value) (w : am_W) => r = none ∧ w = (wX2 11 res τ)) none (wX2 11 res τ) := ⟨rfl, rfl⟩
  show V (wX2 11 σ τ) 0 [(0, .ref 0), (1, .int a1), (2, .int a2)] []
  unfold X2_lay at h
  refine hV.run 3 [] (ws' := wX2 11 σ τ) (pc' := 4) (ls' := [(0, .ref 0), (1, .int a1), (2, .int a2)]) (st' := [.int 10, .int a1, .ref 0]) (ps := []) rfl trivial ?_
  refine hV.cOi (as := [.int a1, .int 10]) (rest := []) (st := [.int 10, .int a1, .ref 0]) (ws2 := wX2 11 σ τ) (pc2 := 7) kX2_81 (c_X2_get l σ τ a1 10) rfl rfl rfl rfl rfl rfl rfl rfl rfl ?_
  refine hV.run 4 [] (ws' := wX2 11 σ τ) (pc' := 11) (ls' := [(3, .int (X2_get σ a1 10)), (0, .ref 0), (1, .int a1), (2, .int a2)]) (st' := [.int 1, .int a1, .ref 0]) (ps := []) rfl trivial ?_
  obtain ⟨q1, hq1, h⟩ := am_bind h
  refine hV.cOv (as := [.int a1, .int 1]) (rest := []) (st := [.int 1, .int a1, .ref 0]) (ws2 := wX2 11 q1 τ) (pc2 := 14) kX2_175 (c_X2_tick l σ τ a1 1 q1 hq1) rfl rfl rfl rfl rfl rfl rfl rfl rfl ?_
  refine hV.run 6 [] (ws' := wX2 11 q1 τ) (pc' := 24) (ls' := [(3, .int (X2_get σ a1 10)), (0, .ref 0), (1, .int a1), (2, .int a2)]) (st' := [.int 0, .int a1, .ref 0, .ref 16]) (ps := []) rfl trivial ?_
  refine hV.cOi (as := [.int a1, .int 0]) (rest := [.ref 16]) (st := [.int 0, .int a1, .ref 0, .ref 16]) (ws2 := wX2 11 q1 τ) (pc2 := 27) kX2_81 (c_X2_get l q1 τ a1 0) rfl rfl rfl rfl rfl rfl rfl rfl rfl ?_
  refine hV.cSi (as := [.ref 0, .int (X2_get q1 a1 0)]) (js := [16]) (rest := []) (st := [.int (X2_get q1 a1 0), .ref 16]) (ws2 := wX2 11 q1 τ) (pc2 := 30) kX2_110 (c_at l 1 40 (by decide) (q1 16) (X2_get q1 a1 0)) rfl rfl rfl rfl rfl rfl rfl rfl rfl rfl ?_
  refine hV.run 8 [] (ws' := wX2 11 q1 τ) (pc' := 41) (ls' := [(4, .int (((jat 40 (q1 16) (X2_get q1 a1 0)) <<< 1) ||| a2)), (3, .int (X2_get σ a1 10)), (0, .ref 0), (1, .int a1), (2, .int a2)]) (st' := [.int a1, .ref 8]) (ps := []) rfl trivial ?_
  refine hV.cSi (as := [.ref 0, .int a1]) (js := [8]) (rest := []) (st := [.int a1, .ref 8]) (ws2 := wX2 11 q1 τ) (pc2 := 44) kX2_110 (c_at l 1 8 (by decide) (q1 8) a1) rfl rfl rfl rfl rfl rfl rfl rfl rfl rfl ?_
  refine hV.run 3 [] (ws' := wX2 11 q1 τ) (pc' := 47) (ls' := [(4, .int (((jat 40 (q1 16) (X2_get q1 a1 0)) <<< 1) ||| a2)), (3, .int (X2_get σ a1 10)), (0, .ref 0), (1, .int a1), (2, .int a2)]) (st' := [.int (X2_get σ a1 10), .int a1, .ref 0, .int (jat 8 (q1 8) a1)]) (ps := []) rfl trivial ?_
  refine hV.cOi (as := [.int a1, .int (X2_get σ a1 10)]) (rest := [.int (jat 8 (q1 8) a1)]) (st := [.int (X2_get σ a1 10), .int a1, .ref 0, .int (jat 8 (q1 8) a1)]) (ws2 := wX2 11 q1 τ) (pc2 := 50) kX2_187 (c_X2_far l q1 τ a1 (X2_get σ a1 10)) rfl rfl rfl rfl rfl rfl rfl rfl rfl ?_
  refine hV.run 6 [] (ws' := wX2 11 q1 τ) (pc' := 59) (ls' := [(5, .int ((jat 8 (q1 8) a1) + (X2_far q1 a1 (X2_get σ a1 10)))), (4, .int (((jat 40 (q1 16) (X2_get q1 a1 0)) <<< 1) ||| a2)), (3, .int (X2_get σ a1 10)), (0, .ref 0), (1, .int a1), (2, .int a2)]) (st' := [.int (X2_get σ a1 10), .int a1, .ref 2]) (ps := []) rfl trivial ?_
  refine hV.cSi (as := [.int a1, .int (X2_get σ a1 10)]) (js := []) (rest := [.ref 2]) (st := [.int (X2_get σ a1 10), .int a1, .ref 2]) (ws2 := wX2 11 q1 τ) (pc2 := 62) kX2_190 (c_X6_pair l a1 (X2_get σ a1 10)) rfl rfl rfl rfl rfl rfl rfl rfl rfl rfl ?_
  refine hV.run 3 [] (ws' := wX2 11 q1 τ) (pc' := 66) (ls' := [(5, .int ((jat 8 (q1 8) a1) + (X2_far q1 a1 (X2_get σ a1 10)))), (4, .int (((jat 40 (q1 16) (X2_get q1 a1 0)) <<< 1) ||| a2)), (3, .int (X2_get σ a1 10)), (0, .ref 0), (1, .int a1), (2, .int a2)]) (st' := [.int 11, .int a1, .ref 0, .int (X6_pair a1 (X2_get σ a1 10)), .ref 2]) (ps := []) rfl trivial ?_
  refine hV.cOi (as := [.int a1, .int 11]) (rest := [.int (X6_pair a1 (X2_get σ a1 10)), .ref 2]) (st := [.int 11, .int a1, .ref 0, .int (X6_pair a1 (X2_get σ a1 10)), .ref 2]) (ws2 := wX2 11 q1 τ) (pc2 := 69) kX2_81 (c_X2_get l q1 τ a1 11) rfl rfl rfl rfl rfl rfl rfl rfl rfl ?_
  refine hV.run 3 [] (ws' := wX2 11 q1 τ) (pc' := 73) (ls' := [(5, .int ((jat 8 (q1 8) a1) + (X2_far q1 a1 (X2_get σ a1 10)))), (4, .int (((jat 40 (q1 16) (X2_get q1 a1 0)) <<< 1) ||| a2)), (3, .int (X2_get σ a1 10)), (0, .ref 0), (1, .int a1), (2, .int a2)]) (st' := [.int 12, .int a1, .ref 0, .int (X2_get q1 a1 11), .int (X6_pair a1 (X2_get σ a1 10)), .ref 2]) (ps := []) rfl trivial ?_
  refine hV.cOi (as := [.int a1, .int 12]) (rest := [.int (X2_get q1 a1 11), .int (X6_pair a1 (X2_get σ a1 10)), .ref 2]) (st := [.int 12, .int a1, .ref 0, .int (X2_get q1 a1 11), .int (X6_pair a1 (X2_get σ a1 10)), .ref 2]) (ws2 := wX2 11 q1 τ) (pc2 := 76) kX2_81 (c_X2_get l q1 τ a1 12) rfl rfl rfl rfl rfl rfl rfl rfl rfl ?_
  refine hV.run 2 [] (ws' := wX2 11 q1 τ) (pc' := 80) (ls' := [(5, .int ((jat 8 (q1 8) a1) + (X2_far q1 a1 (X2_get σ a1 10)))), (4, .int (((jat 40 (q1 16) (X2_get q1 a1 0)) <<< 1) ||| a2)), (3, .int (X2_get σ a1 10)), (0, .ref 0), (1, .int a1), (2, .int a2)]) (st' := [.int ((jat 8 (q1 8) a1) + (X2_far q1 a1 (X2_get σ a1 10))), .int (((jat 40 (q1 16) (X2_get q1 a1 0)) <<< 1) ||| a2), .int (X2_get q1 a1 12), .int (X2_get q1 a1 11), .int (X6_pair a1 (X2_get σ a1 10)), .ref 2]) (ps := []) rfl trivial ?_
  obtain ⟨q2, hq2, h⟩ := am_bind h
  refine hV.cBv 2 5 [] (as := [.int (X6_pair a1 (X2_get σ a1 10)), .int (X2_get q1 a1 11), .int (X2_get q1 a1 12), .int (((jat 40 (q1 16) (X2_get q1 a1 0)) <<< 1) ||| a2), .int ((jat 8 (q1 8) a1) + (X2_far q1 a1 (X2_get σ a1 10)))]) (rest := []) (st := [.int ((jat 8 (q1 8) a1) + (X2_far q1 a1 (X2_get σ a1 10))), .int (((jat 40 (q1 16) (X2_get q1 a1 0)) <<< 1) ||| a2), .int (X2_get q1 a1 12), .int (X2_get q1 a1 11), .int (X6_pair a1 (X2_get σ a1 10)), .ref 2]) (ws2 := wX2 11 (am_put q1 2 5 q2) τ) (pc2 := 83) kX2_193 (c_X6_add l n (am_sub q1 2) (X6_pair a1 (X2_get σ a1 10)) (X2_get q1 a1 11) (X2_get q1 a1 12) (((jat 40 (q1 16) (X2_get q1 a1 0)) <<< 1) ||| a2) ((jat 8 (q1 8) a1) + (X2_far q1 a1 (X2_get σ a1 10))) q2 hq2) rfl rfl rfl rfl rfl rfl rfl rfl rfl rfl rfl rfl rfl rfl ?_
  refine hV.run 2 [] (ws' := wX2 11 (am_put q1 2 5 q2) τ) (pc' := 85) (ls' := [(5, .int ((jat 8 (q1 8) a1) + (X2_far q1 a1 (X2_get σ a1 10)))), (4, .int (((jat 40 (q1 16) (X2_get q1 a1 0)) <<< 1) ||| a2)), (3, .int (X2_get σ a1 10)), (0, .ref 0), (1, .int a1), (2, .int a2)]) (st' := [.int a1, .ref 0]) (ps := []) rfl trivial ?_
  obtain ⟨q3, hq3, h⟩ := am_bind h
  refine hV.cOv (as := [.int a1]) (rest := []) (st := [.int a1, .ref 0]) (ws2 := wX2 11 q3 τ) (pc2 := 88) kX2_178 (c_X2_hasDone l (am_put q1 2 5 q2) τ a1 q3 hq3) rfl rfl rfl rfl rfl rfl rfl rfl rfl ?_
  cases h
  exact hV.rv rfl rfl rfl hP

def X2_receive_J37 (σ : am_M) (l1 : Int32) (l2 : Int32) (l3 : Int32) (l4 : Int32) (l5 : Int32) : Option am_M := (X2_set σ l1 (2 + (jat 40 (σ 15) l5)) l3).bind (fun q1 => (X2_set q1 l1 8 l2).bind (fun q2 => if l4 ≤ (jat 40 (q2 16) l5) then (X2_hasDone q2 l1).bind (fun q4 => some q4) else (X2_stop q2 l1).bind (fun q5 => some q5)))
set_option maxRecDepth 100000 in
set_option maxHeartbeats 4000000 in
theorem p_X2_receive_J37 {l : Launch} {Post : Option Value → am_W → Prop} {V : am_VT} (hV : am_B l RX2 false 3 (am_cdT' tX2_receive) (am_rfL rfX2) none Post 19 V) (τ : Nat → Int64) (res : am_M) (hP : Post none (wX2 11 res τ)) (σ : am_M) (l1 : Int32) (l2 : Int32) (l3 : Int32) (l4 : Int32) (l5 : Int32) (h : X2_receive_J37 σ l1 l2 l3 l4 l5 = some res) : V (wX2 11 σ τ) 37 [(0, .ref 0), (1, .int l1), (2, .int l2), (3, .int l3), (4, .int l4), (5, .int l5)] [] := by
  unfold X2_receive_J37 at h
  refine hV.run 7 [] (ws' := wX2 11 σ τ) (pc' := 49) (ls' := [(0, .ref 0), (1, .int l1), (2, .int l2), (3, .int l3), (4, .int l4), (5, .int l5)]) (st' := [.int l5, .ref 15, .int 2, .int l1, .ref 0]) (ps := []) rfl trivial ?_
  refine hV.cSi (as := [.ref 0, .int l5]) (js := [15]) (rest := [.int 2, .int l1, .ref 0]) (st := [.int l5, .ref 15, .int 2, .int l1, .ref 0]) (ws2 := wX2 11 σ τ) (pc2 := 52) kX2_110 (c_at l 1 40 (by decide) (σ 15) l5) rfl rfl rfl rfl rfl rfl rfl rfl rfl rfl ?_
  refine hV.run 2 [] (ws' := wX2 11 σ τ) (pc' := 54) (ls' := [(0, .ref 0), (1, .int l1), (2, .int l2), (3, .int l3), (4, .int l4), (5, .int l5)]) (st' := [.int l3, .int (2 + (jat 40 (σ 15) l5)), .int l1, .ref 0]) (ps := []) rfl trivial ?_
  obtain ⟨q1, hq1, h⟩ := am_bind h
  refine hV.cOv (as := [.int l1, .int (2 + (jat 40 (σ 15) l5)), .int l3]) (rest := []) (st := [.int l3, .int (2 + (jat 40 (σ 15) l5)), .int l1, .ref 0]) (ws2 := wX2 11 q1 τ) (pc2 := 57) kX2_73 (c_X2_set l σ τ l1 (2 + (jat 40 (σ 15) l5)) l3 q1 hq1) rfl rfl rfl rfl rfl rfl rfl rfl rfl ?_
  refine hV.run 4 [] (ws' := wX2 11 q1 τ) (pc' := 62) (ls' := [(0, .ref 0), (1, .int l1), (2, .int l2), (3, .int l3), (4, .int l4), (5, .int l5)]) (st' := [.int l2, .int 8, .int l1, .ref 0]) (ps := []) rfl trivial ?_
  obtain ⟨q2, hq2, h⟩ := am_bind h
  refine hV.cOv (as := [.int l1, .int 8, .int l2]) (rest := []) (st := [.int l2, .int 8, .int l1, .ref 0]) (ws2 := wX2 11 q2 τ) (pc2 := 65) kX2_73 (c_X2_set l q1 τ l1 8 l2 q2 hq2) rfl rfl rfl rfl rfl rfl rfl rfl rfl ?_
  refine hV.run 5 [] (ws' := wX2 11 q2 τ) (pc' := 76) (ls' := [(0, .ref 0), (1, .int l1), (2, .int l2), (3, .int l3), (4, .int l4), (5, .int l5)]) (st' := [.int l5, .ref 16, .int l4]) (ps := []) rfl trivial ?_
  refine hV.cSi (as := [.ref 0, .int l5]) (js := [16]) (rest := [.int l4]) (st := [.int l5, .ref 16, .int l4]) (ws2 := wX2 11 q2 τ) (pc2 := 79) kX2_110 (c_at l 1 40 (by decide) (q2 16) l5) rfl rfl rfl rfl rfl rfl rfl rfl rfl rfl ?_
  by_cases c3 : l4 ≤ (jat 40 (q2 16) l5)
  · rw [if_pos c3] at h
    refine hV.run 3 [1] (ws' := wX2 11 q2 τ) (pc' := 92) (ls' := [(0, .ref 0), (1, .int l1), (2, .int l2), (3, .int l3), (4, .int l4), (5, .int l5)]) (st' := [.int l1, .ref 0]) (ps := [l4 ≤ (jat 40 (q2 16) l5)]) rfl ⟨c3, trivial⟩ ?_
    obtain ⟨q4, hq4, h⟩ := am_bind h
    refine hV.cOv (as := [.int l1]) (rest := []) (st := [.int l1, .ref 0]) (ws2 := wX2 11 q4 τ) (pc2 := 95) kX2_178 (c_X2_hasDone l q2 τ l1 q4 hq4) rfl rfl rfl rfl rfl rfl rfl rfl rfl ?_
    cases h
    exact hV.rv rfl rfl rfl hP
  · rw [if_neg c3] at h
    refine hV.run 3 [0] (ws' := wX2 11 q2 τ) (pc' := 84) (ls' := [(0, .ref 0), (1, .int l1), (2, .int l2), (3, .int l3), (4, .int l4), (5, .int l5)]) (st' := [.int l1, .ref 0]) (ps := [¬ l4 ≤ (jat 40 (q2 16) l5)]) rfl ⟨c3, trivial⟩ ?_
    obtain ⟨q5, hq5, h⟩ := am_bind h
    refine hV.cOv (as := [.int l1]) (rest := []) (st := [.int l1, .ref 0]) (ws2 := wX2 11 q5 τ) (pc2 := 87) kX2_103 (c_X2_stop l q2 τ l1 q5 hq5) rfl rfl rfl rfl rfl rfl rfl rfl rfl ?_
    refine hV.run 1 [] (ws' := wX2 11 q5 τ) (pc' := 95) (ls' := [(0, .ref 0), (1, .int l1), (2, .int l2), (3, .int l3), (4, .int l4), (5, .int l5)]) (st' := []) (ps := []) rfl trivial ?_
    cases h
    exact hV.rv rfl rfl rfl hP
def X2_receive (σ : am_M) (a1 : Int32) (a2 : Int32) (a3 : Int32) (a4 : Int32) : Option am_M := if (X3_kindOf (am_sub σ 11) (X2_get σ a1 0)) = 4 then (X2_receive_J37 (sC σ 0 (am_u (am_u (am_u (σ 0) 12 a1) 13 (X2_get σ a1 0)) 14 a2)) a1 a2 a3 a4 (X2_get σ a1 0)) else (X2_receive_J37 σ a1 a2 a3 a4 (X2_get σ a1 0))
set_option maxRecDepth 100000 in
set_option maxHeartbeats 4000000 in
theorem c_X2_receive (l : Launch) (σ : am_M) (τ : Nat → Int64) (a1 : Int32) (a2 : Int32) (a3 : Int32) (a4 : Int32) (res : am_M) (h : X2_receive σ a1 a2 a3 a4 = some res) : am_Con l yX2_receive cX2_receive 6 none 3 [.ref 0, .int a1, .int a2, .int a3, .int a4] (wX2 11 σ τ) (fun (r : Option Value) (w : am_W) => r = none ∧ w = (wX2 11 res τ)) := by
  refine am_metn (n0 := 19) (own := RX2) (cd := am_cdT' tX2_receive) (rf := am_rfL rfX2) (ini := false) rfl (by decide +kernel) rfl (by decide) dX2_receive rfX2_ok (Nat.le_of_ble_eq_true rfl) ?_
  intro V hV
  have hP : (fun (r : Option Value) (w : am_W) => r = none ∧ w = (wX2 11 res τ)) none (wX2 11 res τ) := ⟨rfl, rfl⟩
  show V (wX2 11 σ τ) 0 [(0, .ref 0), (1, .int a1), (2, .int a2), (3, .int a3), (4, .int a4)] []
  unfold X2_receive at h
  refine hV.run 3 [] (ws' := wX2 11 σ τ) (pc' := 3) (ls' := [(0, .ref 0), (1, .int a1), (2, .int a2), (3, .int a3), (4, .int a4)]) (st' := [.int 0, .int a1, .ref 0]) (ps := []) rfl trivial ?_
  refine hV.cOi (as := [.int a1, .int 0]) (rest := []) (st := [.int 0, .int a1, .ref 0]) (ws2 := wX2 11 σ τ) (pc2 := 6) kX2_81 (c_X2_get l σ τ a1 0) rfl rfl rfl rfl rfl rfl rfl rfl rfl ?_
  refine hV.run 4 [] (ws' := wX2 11 σ τ) (pc' := 14) (ls' := [(5, .int (X2_get σ a1 0)), (0, .ref 0), (1, .int a1), (2, .int a2), (3, .int a3), (4, .int a4)]) (st' := [.int (X2_get σ a1 0), .ref 11]) (ps := []) rfl trivial ?_
  refine hV.cBi 11 8 [] (as := [.int (X2_get σ a1 0)]) (rest := []) (st := [.int (X2_get σ a1 0), .ref 11]) (ws2 := wX2 11 σ τ) (pc2 := 17) kX2_89 (c_X3_kindOf l (am_sub σ 11) (X2_get σ a1 0)) rfl rfl rfl rfl rfl rfl rfl rfl rfl rfl rfl rfl rfl rfl ?_
  by_cases c1 : (X3_kindOf (am_sub σ 11) (X2_get σ a1 0)) = 4
  · rw [if_pos c1] at h
    refine hV.run 11 [0] (ws' := wX2 11 (sC σ 0 (am_u (am_u (am_u (σ 0) 12 a1) 13 (X2_get σ a1 0)) 14 a2)) τ) (pc' := 37) (ls' := [(5, .int (X2_get σ a1 0)), (0, .ref 0), (1, .int a1), (2, .int a2), (3, .int a3), (4, .int a4)]) (st' := []) (ps := [(X3_kindOf (am_sub σ 11) (X2_get σ a1 0)) = 4]) rfl ⟨c1, trivial⟩ ?_
    refine hV.pick [1, 2, 3, 4, 5, 0] (ls' := [(0, .ref 0), (1, .int a1), (2, .int a2), (3, .int a3), (4, .int a4), (5, .int (X2_get σ a1 0))]) rfl ?_
    exact p_X2_receive_J37 hV τ res hP (sC σ 0 (am_u (am_u (am_u (σ 0) 12 a1) 13 (X2_get σ a1 0)) 14 a2)) a1 a2 a3 a4 (X2_get σ a1 0) h
  · rw [if_neg c1] at h
    refine hV.run 2 [1] (ws' := wX2 11 σ τ) (pc' := 37) (ls' := [(5, .int (X2_get σ a1 0)), (0, .ref 0), (1, .int a1), (2, .int a2), (3, .int a3), (4, .int a4)]) (st' := []) (ps := [¬ (X3_kindOf (am_sub σ 11) (X2_get σ a1 0)) = 4]) rfl ⟨c1, trivial⟩ ?_
    refine hV.pick [1, 2, 3, 4, 5, 0] (ls' := [(0, .ref 0), (1, .int a1), (2, .int a2), (3, .int a3), (4, .int a4), (5, .int (X2_get σ a1 0))]) rfl ?_
    exact p_X2_receive_J37 hV τ res hP σ a1 a2 a3 a4 (X2_get σ a1 0) h

def X2_take_J77 (n : Nat) (σ : am_M) (l1 : Int32) (l2 : Int32) (l3 : Int32) : Option am_M := (X6_remove n (am_sub σ 2) l3).bind (fun q1 => (X2_receive (am_put σ 2 5 q1) l1 l2 (jat 320 (σ 5) l3) (X6_sizeAt (am_sub σ 2) l3)).bind (fun q2 => some q2))
set_option maxRecDepth 100000 in
set_option maxHeartbeats 4000000 in
theorem p_X2_take_J77 {l : Launch} {Post : Option Value → am_W → Prop} {V : am_VT} (hV : am_B l RX2 false 4 (am_cdT' tX2_take) (am_rfL rfX2) none Post 19 V) (n : Nat) (τ : Nat → Int64) (res : am_M) (hP : Post none (wX2 11 res τ)) (σ : am_M) (l1 : Int32) (l2 : Int32) (l3 : Int32) (h : X2_take_J77 n σ l1 l2 l3 = some res) : V (wX2 11 σ τ) 77 [(0, .ref 0), (1, .int l1), (2, .int l2), (3, .int l3)] [] := by
  unfold X2_take_J77 at h
  refine hV.run 4 [] (ws' := wX2 11 σ τ) (pc' := 85) (ls' := [(0, .ref 0), (1, .int l1), (2, .int l2), (3, .int l3)]) (st' := [.int l3, .ref 5]) (ps := []) rfl trivial ?_
  refine hV.cSi (as := [.ref 0, .int l3]) (js := [5]) (rest := []) (st := [.int l3, .ref 5]) (ws2 := wX2 11 σ τ) (pc2 := 88) kX2_110 (c_at l 1 320 (by decide) (σ 5) l3) rfl rfl rfl rfl rfl rfl rfl rfl rfl rfl ?_
  refine hV.run 4 [] (ws' := wX2 11 σ τ) (pc' := 95) (ls' := [(4, .int (jat 320 (σ 5) l3)), (0, .ref 0), (1, .int l1), (2, .int l2), (3, .int l3)]) (st' := [.int l3, .ref 2]) (ps := []) rfl trivial ?_
  refine hV.cBi 2 5 [] (as := [.int l3]) (rest := []) (st := [.int l3, .ref 2]) (ws2 := wX2 11 σ τ) (pc2 := 98) kX2_211 (c_X6_sizeAt l (am_sub σ 2) l3) rfl rfl rfl rfl rfl rfl rfl rfl rfl rfl rfl rfl rfl rfl ?_
  refine hV.run 4 [] (ws' := wX2 11 σ τ) (pc' := 105) (ls' := [(5, .int (X6_sizeAt (am_sub σ 2) l3)), (4, .int (jat 320 (σ 5) l3)), (0, .ref 0), (1, .int l1), (2, .int l2), (3, .int l3)]) (st' := [.int l3, .ref 2]) (ps := []) rfl trivial ?_
  obtain ⟨q1, hq1, h⟩ := am_bind h
  refine hV.cBv 2 5 [] (as := [.int l3]) (rest := []) (st := [.int l3, .ref 2]) (ws2 := wX2 11 (am_put σ 2 5 q1) τ) (pc2 := 108) kX2_214 (c_X6_remove l n (am_sub σ 2) l3 q1 hq1) rfl rfl rfl rfl rfl rfl rfl rfl rfl rfl rfl rfl rfl rfl ?_
  refine hV.run 5 [] (ws' := wX2 11 (am_put σ 2 5 q1) τ) (pc' := 115) (ls' := [(5, .int (X6_sizeAt (am_sub σ 2) l3)), (4, .int (jat 320 (σ 5) l3)), (0, .ref 0), (1, .int l1), (2, .int l2), (3, .int l3)]) (st' := [.int (X6_sizeAt (am_sub σ 2) l3), .int (jat 320 (σ 5) l3), .int l2, .int l1, .ref 0]) (ps := []) rfl trivial ?_
  obtain ⟨q2, hq2, h⟩ := am_bind h
  refine hV.cOv (as := [.int l1, .int l2, .int (jat 320 (σ 5) l3), .int (X6_sizeAt (am_sub σ 2) l3)]) (rest := []) (st := [.int (X6_sizeAt (am_sub σ 2) l3), .int (jat 320 (σ 5) l3), .int l2, .int l1, .ref 0]) (ws2 := wX2 11 q2 τ) (pc2 := 118) kX2_217 (c_X2_receive l (am_put σ 2 5 q1) τ l1 l2 (jat 320 (σ 5) l3) (X6_sizeAt (am_sub σ 2) l3) q2 hq2) rfl rfl rfl rfl rfl rfl rfl rfl rfl ?_
  cases h
  exact hV.rv rfl rfl rfl hP
def X2_take (n : Nat) (σ : am_M) (a1 : Int32) (a2 : Int32) : Option am_M := (X6_first n (am_sub σ 2) a2 a1 (X2_get σ a1 11)).bind (fun q1 => (X2_raise σ a1 (jat 320 (σ 6) q1)).bind (fun q2 => (X2_tick q2 a1 1).bind (fun q3 => if (X6_begunAt (am_sub q3 2) q1) = true then (X2_take_J77 n (sC q3 10 (jput 8 (q3 10) a2 (J9_max_7cf53 (jat 8 (q3 10) a2) (jat 8 (q3 8) a1)))) a1 a2 q1) else (X2_take_J77 n q3 a1 a2 q1))))
set_option maxRecDepth 100000 in
set_option maxHeartbeats 4000000 in
theorem c_X2_take (l : Launch) (n : Nat) (σ : am_M) (τ : Nat → Int64) (a1 : Int32) (a2 : Int32) (res : am_M) (h : X2_take n σ a1 a2 = some res) : am_Con l yX2_take cX2_take 6 none 4 [.ref 0, .int a1, .int a2] (wX2 11 σ τ) (fun (r : Option Value) (w : am_W) => r = none ∧ w = (wX2 11 res τ)) := by
  refine am_metn (n0 := 19) (own := RX2) (cd := am_cdT' tX2_take) (rf := am_rfL rfX2) (ini := false) rfl (by decide +kernel) rfl (by decide) dX2_take rfX2_ok (Nat.le_of_ble_eq_true rfl) ?_
  intro V hV
  have hP : (fun (r : Option Value) (w : am_W) => r = none ∧ w = (wX2 11 res τ)) none (wX2 11 res τ) := ⟨rfl, rfl⟩
  show V (wX2 11 σ τ) 0 [(0, .ref 0), (1, .int a1), (2, .int a2)] []
  unfold X2_take at h
  refine hV.run 7 [] (ws' := wX2 11 σ τ) (pc' := 10) (ls' := [(0, .ref 0), (1, .int a1), (2, .int a2)]) (st' := [.int 11, .int a1, .ref 0, .int a1, .int a2, .ref 2]) (ps := []) rfl trivial ?_
  refine hV.cOi (as := [.int a1, .int 11]) (rest := [.int a1, .int a2, .ref 2]) (st := [.int 11, .int a1, .ref 0, .int a1, .int a2, .ref 2]) (ws2 := wX2 11 σ τ) (pc2 := 13) kX2_81 (c_X2_get l σ τ a1 11) rfl rfl rfl rfl rfl rfl rfl rfl rfl ?_
  obtain ⟨q1, hq1, h⟩ := am_bind h
  refine hV.cBi 2 5 [] (as := [.int a2, .int a1, .int (X2_get σ a1 11)]) (rest := []) (st := [.int (X2_get σ a1 11), .int a1, .int a2, .ref 2]) (ws2 := wX2 11 σ τ) (pc2 := 16) kX2_151 (c_X6_first l n (am_sub σ 2) a2 a1 (X2_get σ a1 11) q1 hq1) rfl rfl rfl rfl rfl rfl rfl rfl rfl rfl rfl rfl rfl rfl ?_
  refine hV.run 7 [] (ws' := wX2 11 σ τ) (pc' := 27) (ls' := [(3, .int q1), (0, .ref 0), (1, .int a1), (2, .int a2)]) (st' := [.int q1, .ref 6, .int a1, .ref 0]) (ps := []) rfl trivial ?_
  refine hV.cSi (as := [.ref 0, .int q1]) (js := [6]) (rest := [.int a1, .ref 0]) (st := [.int q1, .ref 6, .int a1, .ref 0]) (ws2 := wX2 11 σ τ) (pc2 := 30) kX2_110 (c_at l 1 320 (by decide) (σ 6) q1) rfl rfl rfl rfl rfl rfl rfl rfl rfl rfl ?_
  obtain ⟨q2, hq2, h⟩ := am_bind h
  refine hV.cOv (as := [.int a1, .int (jat 320 (σ 6) q1)]) (rest := []) (st := [.int (jat 320 (σ 6) q1), .int a1, .ref 0]) (ws2 := wX2 11 q2 τ) (pc2 := 33) kX2_172 (c_X2_raise l σ τ a1 (jat 320 (σ 6) q1) q2 hq2) rfl rfl rfl rfl rfl rfl rfl rfl rfl ?_
  refine hV.run 3 [] (ws' := wX2 11 q2 τ) (pc' := 36) (ls' := [(3, .int q1), (0, .ref 0), (1, .int a1), (2, .int a2)]) (st' := [.int 1, .int a1, .ref 0]) (ps := []) rfl trivial ?_
  obtain ⟨q3, hq3, h⟩ := am_bind h
  refine hV.cOv (as := [.int a1, .int 1]) (rest := []) (st := [.int 1, .int a1, .ref 0]) (ws2 := wX2 11 q3 τ) (pc2 := 39) kX2_175 (c_X2_tick l q2 τ a1 1 q3 hq3) rfl rfl rfl rfl rfl rfl rfl rfl rfl ?_
  refine hV.run 3 [] (ws' := wX2 11 q3 τ) (pc' := 44) (ls' := [(3, .int q1), (0, .ref 0), (1, .int a1), (2, .int a2)]) (st' := [.int q1, .ref 2]) (ps := []) rfl trivial ?_
  refine hV.cBi 2 5 [] (as := [.int q1]) (rest := []) (st := [.int q1, .ref 2]) (ws2 := wX2 11 q3 τ) (pc2 := 47) kX2_200 (c_X6_begunAt l (am_sub q3 2) q1) rfl rfl rfl rfl rfl rfl rfl rfl rfl rfl rfl rfl rfl rfl ?_
  by_cases c4 : (X6_begunAt (am_sub q3 2) q1) = true
  · rw [if_pos c4] at h
    refine hV.run 7 [0] (ws' := wX2 11 q3 τ) (pc' := 60) (ls' := [(3, .int q1), (0, .ref 0), (1, .int a1), (2, .int a2)]) (st' := [.int a2, .ref 10, .int a2, .ref 10]) (ps := [¬ (b2i (X6_begunAt (am_sub q3 2) q1)) = 0]) rfl ⟨(b2i_t c4), trivial⟩ ?_
    refine hV.cSi (as := [.ref 0, .int a2]) (js := [10]) (rest := [.int a2, .ref 10]) (st := [.int a2, .ref 10, .int a2, .ref 10]) (ws2 := wX2 11 q3 τ) (pc2 := 63) kX2_110 (c_at l 1 8 (by decide) (q3 10) a2) rfl rfl rfl rfl rfl rfl rfl rfl rfl rfl ?_
    refine hV.run 3 [] (ws' := wX2 11 q3 τ) (pc' := 68) (ls' := [(3, .int q1), (0, .ref 0), (1, .int a1), (2, .int a2)]) (st' := [.int a1, .ref 8, .int (jat 8 (q3 10) a2), .int a2, .ref 10]) (ps := []) rfl trivial ?_
    refine hV.cSi (as := [.ref 0, .int a1]) (js := [8]) (rest := [.int (jat 8 (q3 10) a2), .int a2, .ref 10]) (st := [.int a1, .ref 8, .int (jat 8 (q3 10) a2), .int a2, .ref 10]) (ws2 := wX2 11 q3 τ) (pc2 := 71) kX2_110 (c_at l 1 8 (by decide) (q3 8) a1) rfl rfl rfl rfl rfl rfl rfl rfl rfl rfl ?_
    refine hV.cSi (as := [.int (jat 8 (q3 10) a2), .int (jat 8 (q3 8) a1)]) (js := []) (rest := [.int a2, .ref 10]) (st := [.int (jat 8 (q3 8) a1), .int (jat 8 (q3 10) a2), .int a2, .ref 10]) (ws2 := wX2 11 q3 τ) (pc2 := 74) kX2_203 (c_J9_max_7cf53 l (jat 8 (q3 10) a2) (jat 8 (q3 8) a1)) rfl rfl rfl rfl rfl rfl rfl rfl rfl rfl ?_
    refine hV.cSv (as := [.ref 0, .int a2, .int (J9_max_7cf53 (jat 8 (q3 10) a2) (jat 8 (q3 8) a1))]) (js := [10]) (rest := []) (st := [.int (J9_max_7cf53 (jat 8 (q3 10) a2) (jat 8 (q3 8) a1)), .int a2, .ref 10]) (ws2 := wX2 11 (sC q3 10 (jput 8 (q3 10) a2 (J9_max_7cf53 (jat 8 (q3 10) a2) (jat 8 (q3 8) a1)))) τ) (pc2 := 77) kX2_138 (c_put l 1 8 (by decide) (q3 10) a2 (J9_max_7cf53 (jat 8 (q3 10) a2) (jat 8 (q3 8) a1))) rfl rfl rfl rfl rfl rfl rfl rfl rfl rfl ?_
    refine hV.pick [1, 2, 3, 0] (ls' := [(0, .ref 0), (1, .int a1), (2, .int a2), (3, .int q1)]) rfl ?_
    exact p_X2_take_J77 hV n τ res hP (sC q3 10 (jput 8 (q3 10) a2 (J9_max_7cf53 (jat 8 (q3 10) a2) (jat 8 (q3 8) a1)))) a1 a2 q1 h
  · rw [if_neg c4] at h
    refine hV.run 1 [1] (ws' := wX2 11 q3 τ) (pc' := 77) (ls' := [(3, .int q1), (0, .ref 0), (1, .int a1), (2, .int a2)]) (st' := []) (ps := [(b2i (X6_begunAt (am_sub q3 2) q1)) = 0]) rfl ⟨(b2i_f c4), trivial⟩ ?_
    refine hV.pick [1, 2, 3, 0] (ls' := [(0, .ref 0), (1, .int a1), (2, .int a2), (3, .int q1)]) rfl ?_
    exact p_X2_take_J77 hV n τ res hP q3 a1 a2 q1 h

def X2_handOver (σ : am_M) (a1 : Int32) : Option am_M := (X2_raise σ a1 (J9_max_7cf53 (jat 8 (σ 8) a1) (jat 8 (σ 8) (X2_get σ a1 10)))).bind (fun q1 => (X2_raise q1 (X2_get σ a1 10) (J9_max_7cf53 (jat 8 (σ 8) a1) (jat 8 (σ 8) (X2_get σ a1 10)))).bind (fun q2 => (X2_tick q2 a1 (1 + (X2_far q2 a1 (X2_get σ a1 10)))).bind (fun q3 => (X2_tick q3 (X2_get σ a1 10) (1 + (X2_far q3 a1 (X2_get σ a1 10)))).bind (fun q4 => (X2_receive q4 (X2_get σ a1 10) a1 (X2_get q4 a1 12) (jat 40 (q4 16) (X2_get q4 a1 0))).bind (fun q5 => (X2_hasDone q5 a1).bind (fun q6 => some q6))))))
set_option maxRecDepth 100000 in
set_option maxHeartbeats 4000000 in
theorem c_X2_handOver (l : Launch) (σ : am_M) (τ : Nat → Int64) (a1 : Int32) (res : am_M) (h : X2_handOver σ a1 = some res) : am_Con l yX2_handOver cX2_handOver 4 none 4 [.ref 0, .int a1] (wX2 11 σ τ) (fun (r : Option Value) (w : am_W) => r = none ∧ w = (wX2 11 res τ)) := by
  refine am_metn (n0 := 19) (own := RX2) (cd := am_cdT' tX2_handOver) (rf := am_rfL rfX2) (ini := false) rfl (by decide +kernel) rfl (by decide) dX2_handOver rfX2_ok (Nat.le_of_ble_eq_true rfl) ?_
  intro V hV
  have hP : (fun (r : Option Value) (w : am_W) => r = none ∧ w = (wX2 11 res τ)) none (wX2 11 res τ) := ⟨rfl, rfl⟩
  show V (wX2 11 σ τ) 0 [(0, .ref 0), (1, .int a1)] []
  unfold X2_handOver at h
  refine hV.run 3 [] (ws' := wX2 11 σ τ) (pc' := 4) (ls' := [(0, .ref 0), (1, .int a1)]) (st' := [.int 10, .int a1, .ref 0]) (ps := []) rfl trivial ?_
  refine hV.cOi (as := [.int a1, .int 10]) (rest := []) (st := [.int 10, .int a1, .ref 0]) (ws2 := wX2 11 σ τ) (pc2 := 7) kX2_81 (c_X2_get l σ τ a1 10) rfl rfl rfl rfl rfl rfl rfl rfl rfl ?_
  refine hV.run 4 [] (ws' := wX2 11 σ τ) (pc' := 13) (ls' := [(2, .int (X2_get σ a1 10)), (0, .ref 0), (1, .int a1)]) (st' := [.int a1, .ref 8]) (ps := []) rfl trivial ?_
  refine hV.cSi (as := [.ref 0, .int a1]) (js := [8]) (rest := []) (st := [.int a1, .ref 8]) (ws2 := wX2 11 σ τ) (pc2 := 16) kX2_110 (c_at l 1 8 (by decide) (σ 8) a1) rfl rfl rfl rfl rfl rfl rfl rfl rfl rfl ?_
  refine hV.run 3 [] (ws' := wX2 11 σ τ) (pc' := 21) (ls' := [(2, .int (X2_get σ a1 10)), (0, .ref 0), (1, .int a1)]) (st' := [.int (X2_get σ a1 10), .ref 8, .int (jat 8 (σ 8) a1)]) (ps := []) rfl trivial ?_
  refine hV.cSi (as := [.ref 0, .int (X2_get σ a1 10)]) (js := [8]) (rest := [.int (jat 8 (σ 8) a1)]) (st := [.int (X2_get σ a1 10), .ref 8, .int (jat 8 (σ 8) a1)]) (ws2 := wX2 11 σ τ) (pc2 := 24) kX2_110 (c_at l 1 8 (by decide) (σ 8) (X2_get σ a1 10)) rfl rfl rfl rfl rfl rfl rfl rfl rfl rfl ?_
  refine hV.cSi (as := [.int (jat 8 (σ 8) a1), .int (jat 8 (σ 8) (X2_get σ a1 10))]) (js := []) (rest := []) (st := [.int (jat 8 (σ 8) (X2_get σ a1 10)), .int (jat 8 (σ 8) a1)]) (ws2 := wX2 11 σ τ) (pc2 := 27) kX2_203 (c_J9_max_7cf53 l (jat 8 (σ 8) a1) (jat 8 (σ 8) (X2_get σ a1 10))) rfl rfl rfl rfl rfl rfl rfl rfl rfl rfl ?_
  refine hV.run 4 [] (ws' := wX2 11 σ τ) (pc' := 31) (ls' := [(3, .int (J9_max_7cf53 (jat 8 (σ 8) a1) (jat 8 (σ 8) (X2_get σ a1 10)))), (2, .int (X2_get σ a1 10)), (0, .ref 0), (1, .int a1)]) (st' := [.int (J9_max_7cf53 (jat 8 (σ 8) a1) (jat 8 (σ 8) (X2_get σ a1 10))), .int a1, .ref 0]) (ps := []) rfl trivial ?_
  obtain ⟨q1, hq1, h⟩ := am_bind h
  refine hV.cOv (as := [.int a1, .int (J9_max_7cf53 (jat 8 (σ 8) a1) (jat 8 (σ 8) (X2_get σ a1 10)))]) (rest := []) (st := [.int (J9_max_7cf53 (jat 8 (σ 8) a1) (jat 8 (σ 8) (X2_get σ a1 10))), .int a1, .ref 0]) (ws2 := wX2 11 q1 τ) (pc2 := 34) kX2_172 (c_X2_raise l σ τ a1 (J9_max_7cf53 (jat 8 (σ 8) a1) (jat 8 (σ 8) (X2_get σ a1 10))) q1 hq1) rfl rfl rfl rfl rfl rfl rfl rfl rfl ?_
  refine hV.run 3 [] (ws' := wX2 11 q1 τ) (pc' := 37) (ls' := [(3, .int (J9_max_7cf53 (jat 8 (σ 8) a1) (jat 8 (σ 8) (X2_get σ a1 10)))), (2, .int (X2_get σ a1 10)), (0, .ref 0), (1, .int a1)]) (st' := [.int (J9_max_7cf53 (jat 8 (σ 8) a1) (jat 8 (σ 8) (X2_get σ a1 10))), .int (X2_get σ a1 10), .ref 0]) (ps := []) rfl trivial ?_
  obtain ⟨q2, hq2, h⟩ := am_bind h
  refine hV.cOv (as := [.int (X2_get σ a1 10), .int (J9_max_7cf53 (jat 8 (σ 8) a1) (jat 8 (σ 8) (X2_get σ a1 10)))]) (rest := []) (st := [.int (J9_max_7cf53 (jat 8 (σ 8) a1) (jat 8 (σ 8) (X2_get σ a1 10))), .int (X2_get σ a1 10), .ref 0]) (ws2 := wX2 11 q2 τ) (pc2 := 40) kX2_172 (c_X2_raise l q1 τ (X2_get σ a1 10) (J9_max_7cf53 (jat 8 (σ 8) a1) (jat 8 (σ 8) (X2_get σ a1 10))) q2 hq2) rfl rfl rfl rfl rfl rfl rfl rfl rfl ?_
  refine hV.run 6 [] (ws' := wX2 11 q2 τ) (pc' := 46) (ls' := [(3, .int (J9_max_7cf53 (jat 8 (σ 8) a1) (jat 8 (σ 8) (X2_get σ a1 10)))), (2, .int (X2_get σ a1 10)), (0, .ref 0), (1, .int a1)]) (st' := [.int (X2_get σ a1 10), .int a1, .ref 0, .int 1, .int a1, .ref 0]) (ps := []) rfl trivial ?_
  refine hV.cOi (as := [.int a1, .int (X2_get σ a1 10)]) (rest := [.int 1, .int a1, .ref 0]) (st := [.int (X2_get σ a1 10), .int a1, .ref 0, .int 1, .int a1, .ref 0]) (ws2 := wX2 11 q2 τ) (pc2 := 49) kX2_187 (c_X2_far l q2 τ a1 (X2_get σ a1 10)) rfl rfl rfl rfl rfl rfl rfl rfl rfl ?_
  refine hV.run 1 [] (ws' := wX2 11 q2 τ) (pc' := 50) (ls' := [(3, .int (J9_max_7cf53 (jat 8 (σ 8) a1) (jat 8 (σ 8) (X2_get σ a1 10)))), (2, .int (X2_get σ a1 10)), (0, .ref 0), (1, .int a1)]) (st' := [.int (1 + (X2_far q2 a1 (X2_get σ a1 10))), .int a1, .ref 0]) (ps := []) rfl trivial ?_
  obtain ⟨q3, hq3, h⟩ := am_bind h
  refine hV.cOv (as := [.int a1, .int (1 + (X2_far q2 a1 (X2_get σ a1 10)))]) (rest := []) (st := [.int (1 + (X2_far q2 a1 (X2_get σ a1 10))), .int a1, .ref 0]) (ws2 := wX2 11 q3 τ) (pc2 := 53) kX2_175 (c_X2_tick l q2 τ a1 (1 + (X2_far q2 a1 (X2_get σ a1 10))) q3 hq3) rfl rfl rfl rfl rfl rfl rfl rfl rfl ?_
  refine hV.run 6 [] (ws' := wX2 11 q3 τ) (pc' := 59) (ls' := [(3, .int (J9_max_7cf53 (jat 8 (σ 8) a1) (jat 8 (σ 8) (X2_get σ a1 10)))), (2, .int (X2_get σ a1 10)), (0, .ref 0), (1, .int a1)]) (st' := [.int (X2_get σ a1 10), .int a1, .ref 0, .int 1, .int (X2_get σ a1 10), .ref 0]) (ps := []) rfl trivial ?_
  refine hV.cOi (as := [.int a1, .int (X2_get σ a1 10)]) (rest := [.int 1, .int (X2_get σ a1 10), .ref 0]) (st := [.int (X2_get σ a1 10), .int a1, .ref 0, .int 1, .int (X2_get σ a1 10), .ref 0]) (ws2 := wX2 11 q3 τ) (pc2 := 62) kX2_187 (c_X2_far l q3 τ a1 (X2_get σ a1 10)) rfl rfl rfl rfl rfl rfl rfl rfl rfl ?_
  refine hV.run 1 [] (ws' := wX2 11 q3 τ) (pc' := 63) (ls' := [(3, .int (J9_max_7cf53 (jat 8 (σ 8) a1) (jat 8 (σ 8) (X2_get σ a1 10)))), (2, .int (X2_get σ a1 10)), (0, .ref 0), (1, .int a1)]) (st' := [.int (1 + (X2_far q3 a1 (X2_get σ a1 10))), .int (X2_get σ a1 10), .ref 0]) (ps := []) rfl trivial ?_
  obtain ⟨q4, hq4, h⟩ := am_bind h
  refine hV.cOv (as := [.int (X2_get σ a1 10), .int (1 + (X2_far q3 a1 (X2_get σ a1 10)))]) (rest := []) (st := [.int (1 + (X2_far q3 a1 (X2_get σ a1 10))), .int (X2_get σ a1 10), .ref 0]) (ws2 := wX2 11 q4 τ) (pc2 := 66) kX2_175 (c_X2_tick l q3 τ (X2_get σ a1 10) (1 + (X2_far q3 a1 (X2_get σ a1 10))) q4 hq4) rfl rfl rfl rfl rfl rfl rfl rfl rfl ?_
  refine hV.run 6 [] (ws' := wX2 11 q4 τ) (pc' := 73) (ls' := [(3, .int (J9_max_7cf53 (jat 8 (σ 8) a1) (jat 8 (σ 8) (X2_get σ a1 10)))), (2, .int (X2_get σ a1 10)), (0, .ref 0), (1, .int a1)]) (st' := [.int 12, .int a1, .ref 0, .int a1, .int (X2_get σ a1 10), .ref 0]) (ps := []) rfl trivial ?_
  refine hV.cOi (as := [.int a1, .int 12]) (rest := [.int a1, .int (X2_get σ a1 10), .ref 0]) (st := [.int 12, .int a1, .ref 0, .int a1, .int (X2_get σ a1 10), .ref 0]) (ws2 := wX2 11 q4 τ) (pc2 := 76) kX2_81 (c_X2_get l q4 τ a1 12) rfl rfl rfl rfl rfl rfl rfl rfl rfl ?_
  refine hV.run 6 [] (ws' := wX2 11 q4 τ) (pc' := 86) (ls' := [(3, .int (J9_max_7cf53 (jat 8 (σ 8) a1) (jat 8 (σ 8) (X2_get σ a1 10)))), (2, .int (X2_get σ a1 10)), (0, .ref 0), (1, .int a1)]) (st' := [.int 0, .int a1, .ref 0, .ref 16, .int (X2_get q4 a1 12), .int a1, .int (X2_get σ a1 10), .ref 0]) (ps := []) rfl trivial ?_
  refine hV.cOi (as := [.int a1, .int 0]) (rest := [.ref 16, .int (X2_get q4 a1 12), .int a1, .int (X2_get σ a1 10), .ref 0]) (st := [.int 0, .int a1, .ref 0, .ref 16, .int (X2_get q4 a1 12), .int a1, .int (X2_get σ a1 10), .ref 0]) (ws2 := wX2 11 q4 τ) (pc2 := 89) kX2_81 (c_X2_get l q4 τ a1 0) rfl rfl rfl rfl rfl rfl rfl rfl rfl ?_
  refine hV.cSi (as := [.ref 0, .int (X2_get q4 a1 0)]) (js := [16]) (rest := [.int (X2_get q4 a1 12), .int a1, .int (X2_get σ a1 10), .ref 0]) (st := [.int (X2_get q4 a1 0), .ref 16, .int (X2_get q4 a1 12), .int a1, .int (X2_get σ a1 10), .ref 0]) (ws2 := wX2 11 q4 τ) (pc2 := 92) kX2_110 (c_at l 1 40 (by decide) (q4 16) (X2_get q4 a1 0)) rfl rfl rfl rfl rfl rfl rfl rfl rfl rfl ?_
  obtain ⟨q5, hq5, h⟩ := am_bind h
  refine hV.cOv (as := [.int (X2_get σ a1 10), .int a1, .int (X2_get q4 a1 12), .int (jat 40 (q4 16) (X2_get q4 a1 0))]) (rest := []) (st := [.int (jat 40 (q4 16) (X2_get q4 a1 0)), .int (X2_get q4 a1 12), .int a1, .int (X2_get σ a1 10), .ref 0]) (ws2 := wX2 11 q5 τ) (pc2 := 95) kX2_217 (c_X2_receive l q4 τ (X2_get σ a1 10) a1 (X2_get q4 a1 12) (jat 40 (q4 16) (X2_get q4 a1 0)) q5 hq5) rfl rfl rfl rfl rfl rfl rfl rfl rfl ?_
  refine hV.run 2 [] (ws' := wX2 11 q5 τ) (pc' := 97) (ls' := [(3, .int (J9_max_7cf53 (jat 8 (σ 8) a1) (jat 8 (σ 8) (X2_get σ a1 10)))), (2, .int (X2_get σ a1 10)), (0, .ref 0), (1, .int a1)]) (st' := [.int a1, .ref 0]) (ps := []) rfl trivial ?_
  obtain ⟨q6, hq6, h⟩ := am_bind h
  refine hV.cOv (as := [.int a1]) (rest := []) (st := [.int a1, .ref 0]) (ws2 := wX2 11 q6 τ) (pc2 := 100) kX2_178 (c_X2_hasDone l q5 τ a1 q6 hq6) rfl rfl rfl rfl rfl rfl rfl rfl rfl ?_
  cases h
  exact hV.rv rfl rfl rfl hP

