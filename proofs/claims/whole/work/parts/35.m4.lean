def X8_noteAny (σ : am_M) (a1 : Int32) (a2 : Int32) : Option am_M := (X8_own (sC σ 0 (am_u (am_u (σ 0) 40 a1) 41 a2)) a1 0).bind (fun q1 => some (sC σ 0 (am_u (am_u (am_u (σ 0) 40 a1) 41 a2) 42 q1)))
set_option maxRecDepth 100000 in
set_option maxHeartbeats 4000000 in
theorem c_X8_noteAny (l : Launch) (σ : am_M) (a1 : Int32) (a2 : Int32) (res : am_M) (h : X8_noteAny σ a1 a2 = some res) : am_Con l yX8_noteAny cX8_noteAny 3 none 2 [.ref 0, .int a1, .int a2] (wX8 σ) (fun (r : Option Value) (w : am_W) => r = none ∧ w = (wX8 res)) := by
  refine am_metn (n0 := 36) (own := RX8) (cd := am_cdT' tX8_noteAny) (rf := am_rfL rfX8) (ini := false) rfl (by decide +kernel) rfl (by decide) dX8_noteAny rfX8_ok (Nat.le_of_ble_eq_true rfl) ?_
  intro V hV
  have hP : (fun (r : Option Value) (w : am_W) => r = none ∧ w = (wX8 res)) none (wX8 res) := ⟨rfl, rfl⟩
  show V (wX8 σ) 0 [(0, .ref 0), (1, .int a1), (2, .int a2)] []
  unfold X8_noteAny at h
  refine hV.run 10 [] (ws' := wX8 (sC σ 0 (am_u (am_u (σ 0) 40 a1) 41 a2))) (pc' := 14) (ls' := [(0, .ref 0), (1, .int a1), (2, .int a2)]) (st' := [.int 0, .int a1, .ref 0, .ref 0]) (ps := []) rfl trivial ?_
  obtain ⟨q1, hq1, h⟩ := am_bind h
  refine hV.cOi (as := [.int a1, .int 0]) (rest := [.ref 0]) (st := [.int 0, .int a1, .ref 0, .ref 0]) (ws2 := wX8 (sC σ 0 (am_u (am_u (σ 0) 40 a1) 41 a2))) (pc2 := 17) kX8_337 (c_X8_own l (sC σ 0 (am_u (am_u (σ 0) 40 a1) 41 a2)) a1 0 q1 hq1) rfl rfl rfl rfl rfl rfl rfl rfl rfl ?_
  refine hV.run 1 [] (ws' := wX8 (sC σ 0 (am_u (am_u (am_u (σ 0) 40 a1) 41 a2) 42 q1))) (pc' := 20) (ls' := [(0, .ref 0), (1, .int a1), (2, .int a2)]) (st' := []) (ps := []) rfl trivial ?_
  cases h
  exact hV.rv rfl rfl rfl hP

def X8_take_J95 (n : Nat) (σ : am_M) (l1 : Int32) (l2 : Int32) (l3 : Int32) (l5 : Int32) (l6 : Int32) : Option am_M := (X8_takeAway n σ l3).bind (fun q1 => (X8_has n q1 l1 l2 l5 l6).bind (fun q2 => some q2))
set_option maxRecDepth 100000 in
set_option maxHeartbeats 4000000 in
theorem p_X8_take_J95 {l : Launch} {Post : Option Value → am_W → Prop} {V : am_VT} (hV : am_B l RX8 false 8 (am_cdT' tX8_take) (am_rfL rfX8) none Post 36 V) (n : Nat) (res : am_M) (hP : Post none (wX8 res)) (σ : am_M) (l1 : Int32) (l2 : Int32) (l3 : Int32) (l5 : Int32) (l6 : Int32) (h : X8_take_J95 n σ l1 l2 l3 l5 l6 = some res) : V (wX8 σ) 95 [(0, .ref 0), (1, .int l1), (2, .int l2), (3, .int l3), (5, .int l5), (6, .int l6)] [] := by
  unfold X8_take_J95 at h
  refine hV.run 2 [] (ws' := wX8 σ) (pc' := 97) (ls' := [(0, .ref 0), (1, .int l1), (2, .int l2), (3, .int l3), (5, .int l5), (6, .int l6)]) (st' := [.int l3, .ref 0]) (ps := []) rfl trivial ?_
  obtain ⟨q1, hq1, h⟩ := am_bind h
  refine hV.cOv (as := [.int l3]) (rest := []) (st := [.int l3, .ref 0]) (ws2 := wX8 q1) (pc2 := 100) kX8_402 (c_X8_takeAway l n σ l3 q1 hq1) rfl rfl rfl rfl rfl rfl rfl rfl rfl ?_
  refine hV.run 5 [] (ws' := wX8 q1) (pc' := 107) (ls' := [(0, .ref 0), (1, .int l1), (2, .int l2), (3, .int l3), (5, .int l5), (6, .int l6)]) (st' := [.int l6, .int l5, .int l2, .int l1, .ref 0]) (ps := []) rfl trivial ?_
  obtain ⟨q2, hq2, h⟩ := am_bind h
  refine hV.cOv (as := [.int l1, .int l2, .int l5, .int l6]) (rest := []) (st := [.int l6, .int l5, .int l2, .int l1, .ref 0]) (ws2 := wX8 q2) (pc2 := 110) kX8_405 (c_X8_has l n q1 l1 l2 l5 l6 q2 hq2) rfl rfl rfl rfl rfl rfl rfl rfl rfl ?_
  cases h
  exact hV.rv rfl rfl rfl hP
def X8_take_J46 (n : Nat) (σ : am_M) (l1 : Int32) (l2 : Int32) (l3 : Int32) (l5 : Int32) (l6 : Int32) (s0 : Int32) : Option am_M := if l3 < 0 ∨ 321 ≤ l3.toNatClampNeg then none else (X8_upTo σ l1 (σ 20 l3.toNatClampNeg)).bind (fun q2 => if l1 < 0 ∨ 8 ≤ l1.toNatClampNeg then none else (if l1 < 0 ∨ 8 ≤ l1.toNatClampNeg then none else (if s0 = 0 then (X8_take_J95 n (sC q2 17 (upd (q2 17) l1.toNatClampNeg ((q2 17 l1.toNatClampNeg) + 1))) l1 l2 l3 l5 l6) else (if l2 < 0 ∨ 8 ≤ l2.toNatClampNeg then none else (if l1 < 0 ∨ 8 ≤ l1.toNatClampNeg then none else (if l2 < 0 ∨ 8 ≤ l2.toNatClampNeg then none else (X8_take_J95 n (sC (sC q2 17 (upd (q2 17) l1.toNatClampNeg ((q2 17 l1.toNatClampNeg) + 1))) 19 (upd (q2 19) l2.toNatClampNeg (J9_max_7cf53 (q2 19 l2.toNatClampNeg) ((upd (q2 17) l1.toNatClampNeg ((q2 17 l1.toNatClampNeg) + 1)) l1.toNatClampNeg)))) l1 l2 l3 l5 l6)))))))
set_option maxRecDepth 100000 in
set_option maxHeartbeats 4000000 in
theorem p_X8_take_J46 {l : Launch} {Post : Option Value → am_W → Prop} {V : am_VT} (hV : am_B l RX8 false 8 (am_cdT' tX8_take) (am_rfL rfX8) none Post 36 V) (n : Nat) (res : am_M) (hP : Post none (wX8 res)) (σ : am_M) (l1 : Int32) (l2 : Int32) (l3 : Int32) (l5 : Int32) (l6 : Int32) (s0 : Int32) (h : X8_take_J46 n σ l1 l2 l3 l5 l6 s0 = some res) : V (wX8 σ) 46 [(0, .ref 0), (1, .int l1), (2, .int l2), (3, .int l3), (5, .int l5), (6, .int l6)] [.int s0] := by
  unfold X8_take_J46 at h
  by_cases g1 : l3 < 0 ∨ 321 ≤ l3.toNatClampNeg
  · rw [if_pos g1] at h; cases h
  rw [if_neg g1] at h
  refine hV.run 7 [] (ws' := wX8 σ) (pc' := 56) (ls' := [(7, .int s0), (0, .ref 0), (1, .int l1), (2, .int l2), (3, .int l3), (5, .int l5), (6, .int l6)]) (st' := [.int (σ 20 l3.toNatClampNeg), .int l1, .ref 0]) (ps := [vp_in l3 321]) rfl ⟨g1, trivial⟩ ?_
  obtain ⟨q2, hq2, h⟩ := am_bind h
  refine hV.cOv (as := [.int l1, .int (σ 20 l3.toNatClampNeg)]) (rest := []) (st := [.int (σ 20 l3.toNatClampNeg), .int l1, .ref 0]) (ws2 := wX8 q2) (pc2 := 59) kX8_399 (c_X8_upTo l σ l1 (σ 20 l3.toNatClampNeg) q2 hq2) rfl rfl rfl rfl rfl rfl rfl rfl rfl ?_
  by_cases g3 : l1 < 0 ∨ 8 ≤ l1.toNatClampNeg
  · rw [if_pos g3] at h; cases h
  rw [if_neg g3] at h
  by_cases g4 : l1 < 0 ∨ 8 ≤ l1.toNatClampNeg
  · rw [if_pos g4] at h; cases h
  rw [if_neg g4] at h
  by_cases c5 : s0 = 0
  · rw [if_pos c5] at h
    refine hV.run 10 [1] (ws' := wX8 (sC q2 17 (upd (q2 17) l1.toNatClampNeg ((q2 17 l1.toNatClampNeg) + 1)))) (pc' := 95) (ls' := [(7, .int s0), (0, .ref 0), (1, .int l1), (2, .int l2), (3, .int l3), (5, .int l5), (6, .int l6)]) (st' := []) (ps := [vp_in l1 8, vp_in l1 8, s0 = 0]) rfl ⟨g3, g4, c5, trivial⟩ ?_
    refine hV.pick [1, 2, 3, 4, 5, 6] (ls' := [(0, .ref 0), (1, .int l1), (2, .int l2), (3, .int l3), (5, .int l5), (6, .int l6)]) rfl ?_
    exact p_X8_take_J95 hV n res hP (sC q2 17 (upd (q2 17) l1.toNatClampNeg ((q2 17 l1.toNatClampNeg) + 1))) l1 l2 l3 l5 l6 h
  · rw [if_neg c5] at h
    by_cases g6 : l2 < 0 ∨ 8 ≤ l2.toNatClampNeg
    · rw [if_pos g6] at h; cases h
    rw [if_neg g6] at h
    by_cases g7 : l1 < 0 ∨ 8 ≤ l1.toNatClampNeg
    · rw [if_pos g7] at h; cases h
    rw [if_neg g7] at h
    refine hV.run 21 [0] (ws' := wX8 (sC q2 17 (upd (q2 17) l1.toNatClampNeg ((q2 17 l1.toNatClampNeg) + 1)))) (pc' := 91) (ls' := [(7, .int s0), (0, .ref 0), (1, .int l1), (2, .int l2), (3, .int l3), (5, .int l5), (6, .int l6)]) (st' := [.int ((upd (q2 17) l1.toNatClampNeg ((q2 17 l1.toNatClampNeg) + 1)) l1.toNatClampNeg), .int (q2 19 l2.toNatClampNeg), .int l2, .ref 19]) (ps := [vp_in l1 8, vp_in l1 8, ¬ s0 = 0, vp_in l2 8, vp_in l1 8]) rfl ⟨g3, g4, c5, g6, g7, trivial⟩ ?_
    refine hV.cSi (as := [.int (q2 19 l2.toNatClampNeg), .int ((upd (q2 17) l1.toNatClampNeg ((q2 17 l1.toNatClampNeg) + 1)) l1.toNatClampNeg)]) (js := []) (rest := [.int l2, .ref 19]) (st := [.int ((upd (q2 17) l1.toNatClampNeg ((q2 17 l1.toNatClampNeg) + 1)) l1.toNatClampNeg), .int (q2 19 l2.toNatClampNeg), .int l2, .ref 19]) (ws2 := wX8 (sC q2 17 (upd (q2 17) l1.toNatClampNeg ((q2 17 l1.toNatClampNeg) + 1)))) (pc2 := 94) kX8_396 (c_J9_max_7cf53 l (q2 19 l2.toNatClampNeg) ((upd (q2 17) l1.toNatClampNeg ((q2 17 l1.toNatClampNeg) + 1)) l1.toNatClampNeg)) rfl rfl rfl rfl rfl rfl rfl rfl rfl rfl ?_
    by_cases g8 : l2 < 0 ∨ 8 ≤ l2.toNatClampNeg
    · rw [if_pos g8] at h; cases h
    rw [if_neg g8] at h
    refine hV.run 1 [] (ws' := wX8 (sC (sC q2 17 (upd (q2 17) l1.toNatClampNeg ((q2 17 l1.toNatClampNeg) + 1))) 19 (upd (q2 19) l2.toNatClampNeg (J9_max_7cf53 (q2 19 l2.toNatClampNeg) ((upd (q2 17) l1.toNatClampNeg ((q2 17 l1.toNatClampNeg) + 1)) l1.toNatClampNeg))))) (pc' := 95) (ls' := [(7, .int s0), (0, .ref 0), (1, .int l1), (2, .int l2), (3, .int l3), (5, .int l5), (6, .int l6)]) (st' := []) (ps := [vp_in l2 8]) rfl ⟨g8, trivial⟩ ?_
    refine hV.pick [1, 2, 3, 4, 5, 6] (ls' := [(0, .ref 0), (1, .int l1), (2, .int l2), (3, .int l3), (5, .int l5), (6, .int l6)]) rfl ?_
    exact p_X8_take_J95 hV n res hP (sC (sC q2 17 (upd (q2 17) l1.toNatClampNeg ((q2 17 l1.toNatClampNeg) + 1))) 19 (upd (q2 19) l2.toNatClampNeg (J9_max_7cf53 (q2 19 l2.toNatClampNeg) ((upd (q2 17) l1.toNatClampNeg ((q2 17 l1.toNatClampNeg) + 1)) l1.toNatClampNeg)))) l1 l2 l3 l5 l6 h
def X8_take (n : Nat) (σ : am_M) (a1 : Int32) (a2 : Int32) (a3 : Int32) : Option am_M := if ((X8_wordAt a3) + 3) < 0 ∨ 1985 ≤ ((X8_wordAt a3) + 3).toNatClampNeg then none else (if ((X8_wordAt a3) + 4) < 0 ∨ 1985 ≤ ((X8_wordAt a3) + 4).toNatClampNeg then none else (if ((X8_wordAt a3) + 5) < 0 ∨ 1985 ≤ ((X8_wordAt a3) + 5).toNatClampNeg then none else (if (σ 15 ((X8_wordAt a3) + 5).toNatClampNeg) = 1 then (X8_take_J46 n σ a1 a2 a3 (σ 15 ((X8_wordAt a3) + 3).toNatClampNeg) (σ 15 ((X8_wordAt a3) + 4).toNatClampNeg) 1) else (X8_take_J46 n σ a1 a2 a3 (σ 15 ((X8_wordAt a3) + 3).toNatClampNeg) (σ 15 ((X8_wordAt a3) + 4).toNatClampNeg) 0))))
set_option maxRecDepth 100000 in
set_option maxHeartbeats 4000000 in
theorem c_X8_take (l : Launch) (n : Nat) (σ : am_M) (a1 : Int32) (a2 : Int32) (a3 : Int32) (res : am_M) (h : X8_take n σ a1 a2 a3 = some res) : am_Con l yX8_take cX8_take 8 none 8 [.ref 0, .int a1, .int a2, .int a3] (wX8 σ) (fun (r : Option Value) (w : am_W) => r = none ∧ w = (wX8 res)) := by
  refine am_metn (n0 := 36) (own := RX8) (cd := am_cdT' tX8_take) (rf := am_rfL rfX8) (ini := false) rfl (by decide +kernel) rfl (by decide) dX8_take rfX8_ok (Nat.le_of_ble_eq_true rfl) ?_
  intro V hV
  have hP : (fun (r : Option Value) (w : am_W) => r = none ∧ w = (wX8 res)) none (wX8 res) := ⟨rfl, rfl⟩
  show V (wX8 σ) 0 [(0, .ref 0), (1, .int a1), (2, .int a2), (3, .int a3)] []
  unfold X8_take at h
  refine hV.run 1 [] (ws' := wX8 σ) (pc' := 1) (ls' := [(0, .ref 0), (1, .int a1), (2, .int a2), (3, .int a3)]) (st' := [.int a3]) (ps := []) rfl trivial ?_
  refine hV.cSi (as := [.int a3]) (js := []) (rest := []) (st := [.int a3]) (ws2 := wX8 σ) (pc2 := 4) kX8_366 (c_X8_wordAt l a3) rfl rfl rfl rfl rfl rfl rfl rfl rfl rfl ?_
  by_cases g1 : ((X8_wordAt a3) + 3) < 0 ∨ 1985 ≤ ((X8_wordAt a3) + 3).toNatClampNeg
  · rw [if_pos g1] at h; cases h
  rw [if_neg g1] at h
  by_cases g2 : ((X8_wordAt a3) + 4) < 0 ∨ 1985 ≤ ((X8_wordAt a3) + 4).toNatClampNeg
  · rw [if_pos g2] at h; cases h
  rw [if_neg g2] at h
  by_cases g3 : ((X8_wordAt a3) + 5) < 0 ∨ 1985 ≤ ((X8_wordAt a3) + 5).toNatClampNeg
  · rw [if_pos g3] at h; cases h
  rw [if_neg g3] at h
  by_cases c4 : (σ 15 ((X8_wordAt a3) + 5).toNatClampNeg) = 1
  · rw [if_pos c4] at h
    refine hV.run 25 [0] (ws' := wX8 σ) (pc' := 46) (ls' := [(6, .int (σ 15 ((X8_wordAt a3) + 4).toNatClampNeg)), (5, .int (σ 15 ((X8_wordAt a3) + 3).toNatClampNeg)), (4, .int (X8_wordAt a3)), (0, .ref 0), (1, .int a1), (2, .int a2), (3, .int a3)]) (st' := [.int 1]) (ps := [vp_in ((X8_wordAt a3) + 3) 1985, vp_in ((X8_wordAt a3) + 4) 1985, vp_in ((X8_wordAt a3) + 5) 1985, (σ 15 ((X8_wordAt a3) + 5).toNatClampNeg) = 1]) rfl ⟨g1, g2, g3, c4, trivial⟩ ?_
    refine hV.pick [3, 4, 5, 6, 1, 0] (ls' := [(0, .ref 0), (1, .int a1), (2, .int a2), (3, .int a3), (5, .int (σ 15 ((X8_wordAt a3) + 3).toNatClampNeg)), (6, .int (σ 15 ((X8_wordAt a3) + 4).toNatClampNeg))]) rfl ?_
    exact p_X8_take_J46 hV n res hP σ a1 a2 a3 (σ 15 ((X8_wordAt a3) + 3).toNatClampNeg) (σ 15 ((X8_wordAt a3) + 4).toNatClampNeg) 1 h
  · rw [if_neg c4] at h
    refine hV.run 24 [1] (ws' := wX8 σ) (pc' := 46) (ls' := [(6, .int (σ 15 ((X8_wordAt a3) + 4).toNatClampNeg)), (5, .int (σ 15 ((X8_wordAt a3) + 3).toNatClampNeg)), (4, .int (X8_wordAt a3)), (0, .ref 0), (1, .int a1), (2, .int a2), (3, .int a3)]) (st' := [.int 0]) (ps := [vp_in ((X8_wordAt a3) + 3) 1985, vp_in ((X8_wordAt a3) + 4) 1985, vp_in ((X8_wordAt a3) + 5) 1985, ¬ (σ 15 ((X8_wordAt a3) + 5).toNatClampNeg) = 1]) rfl ⟨g1, g2, g3, c4, trivial⟩ ?_
    refine hV.pick [3, 4, 5, 6, 1, 0] (ls' := [(0, .ref 0), (1, .int a1), (2, .int a2), (3, .int a3), (5, .int (σ 15 ((X8_wordAt a3) + 3).toNatClampNeg)), (6, .int (σ 15 ((X8_wordAt a3) + 4).toNatClampNeg))]) rfl ?_
    exact p_X8_take_J46 hV n res hP σ a1 a2 a3 (σ 15 ((X8_wordAt a3) + 3).toNatClampNeg) (σ 15 ((X8_wordAt a3) + 4).toNatClampNeg) 0 h

def X8_handOver_J102 (n : Nat) (σ : am_M) (l1 : Int32) (l2 : Int32) (l3 : Int32) (l4 : Int32) : Option am_M := (X8_goOn n σ l1).bind (fun q1 => (X8_has n q1 l2 l1 l3 l4).bind (fun q2 => some q2))
set_option maxRecDepth 100000 in
set_option maxHeartbeats 4000000 in
theorem p_X8_handOver_J102 {l : Launch} {Post : Option Value → am_W → Prop} {V : am_VT} (hV : am_B l RX8 false 8 (am_cdT' tX8_handOver) (am_rfL rfX8) none Post 36 V) (n : Nat) (res : am_M) (hP : Post none (wX8 res)) (σ : am_M) (l1 : Int32) (l2 : Int32) (l3 : Int32) (l4 : Int32) (h : X8_handOver_J102 n σ l1 l2 l3 l4 = some res) : V (wX8 σ) 102 [(0, .ref 0), (1, .int l1), (2, .int l2), (3, .int l3), (4, .int l4)] [] := by
  unfold X8_handOver_J102 at h
  refine hV.run 2 [] (ws' := wX8 σ) (pc' := 104) (ls' := [(0, .ref 0), (1, .int l1), (2, .int l2), (3, .int l3), (4, .int l4)]) (st' := [.int l1, .ref 0]) (ps := []) rfl trivial ?_
  obtain ⟨q1, hq1, h⟩ := am_bind h
  refine hV.cOv (as := [.int l1]) (rest := []) (st := [.int l1, .ref 0]) (ws2 := wX8 q1) (pc2 := 107) kX8_372 (c_X8_goOn l n σ l1 q1 hq1) rfl rfl rfl rfl rfl rfl rfl rfl rfl ?_
  refine hV.run 5 [] (ws' := wX8 q1) (pc' := 113) (ls' := [(0, .ref 0), (1, .int l1), (2, .int l2), (3, .int l3), (4, .int l4)]) (st' := [.int l4, .int l3, .int l1, .int l2, .ref 0]) (ps := []) rfl trivial ?_
  obtain ⟨q2, hq2, h⟩ := am_bind h
  refine hV.cOv (as := [.int l2, .int l1, .int l3, .int l4]) (rest := []) (st := [.int l4, .int l3, .int l1, .int l2, .ref 0]) (ws2 := wX8 q2) (pc2 := 116) kX8_405 (c_X8_has l n q1 l2 l1 l3 l4 q2 hq2) rfl rfl rfl rfl rfl rfl rfl rfl rfl ?_
  cases h
  exact hV.rv rfl rfl rfl hP
def X8_handOver (n : Nat) (σ : am_M) (a1 : Int32) : Option am_M := (X8_asked n σ a1 0).bind (fun q1 => (X8_asked n q1.2 a1 2).bind (fun q2 => (X8_own q2.2 a1 0).bind (fun q3 => if q3 < 0 ∨ 80 ≤ q3.toNatClampNeg then none else (if a1 < 0 ∨ 8 ≤ a1.toNatClampNeg then none else (if q1.1 < 0 ∨ 8 ≤ q1.1.toNatClampNeg then none else (X8_upTo q2.2 a1 (J9_max_7cf53 ((q2.2 17) a1.toNatClampNeg) ((q2.2 17) q1.1.toNatClampNeg))).bind (fun q7 => (X8_upTo q7 q1.1 (J9_max_7cf53 ((q2.2 17) a1.toNatClampNeg) ((q2.2 17) q1.1.toNatClampNeg))).bind (fun q8 => if a1 < 0 ∨ 8 ≤ a1.toNatClampNeg then none else (if a1 < 0 ∨ 8 ≤ a1.toNatClampNeg then none else (if a1 < 0 ∨ 8 ≤ a1.toNatClampNeg then none else (if q1.1 < 0 ∨ 8 ≤ q1.1.toNatClampNeg then none else (X8_isAt (sC q8 17 (upd (upd (q8 17) a1.toNatClampNeg ((q8 17 a1.toNatClampNeg) + (1 + (X8_farOf q8 a1 q1.1)))) q1.1.toNatClampNeg ((upd (q8 17) a1.toNatClampNeg ((q8 17 a1.toNatClampNeg) + (1 + (X8_farOf q8 a1 q1.1)))) a1.toNatClampNeg))) q1.1 4).bind (fun q13 => if q13 = true then (X8_noteAny (sC q8 17 (upd (upd (q8 17) a1.toNatClampNeg ((q8 17 a1.toNatClampNeg) + (1 + (X8_farOf q8 a1 q1.1)))) q1.1.toNatClampNeg ((upd (q8 17) a1.toNatClampNeg ((q8 17 a1.toNatClampNeg) + (1 + (X8_farOf q8 a1 q1.1)))) a1.toNatClampNeg))) q1.1 a1).bind (fun q15 => X8_handOver_J102 n q15 a1 q1.1 q2.1 ((q2.2 10) q3.toNatClampNeg)) else (X8_handOver_J102 n (sC q8 17 (upd (upd (q8 17) a1.toNatClampNeg ((q8 17 a1.toNatClampNeg) + (1 + (X8_farOf q8 a1 q1.1)))) q1.1.toNatClampNeg ((upd (q8 17) a1.toNatClampNeg ((q8 17 a1.toNatClampNeg) + (1 + (X8_farOf q8 a1 q1.1)))) a1.toNatClampNeg))) a1 q1.1 q2.1 ((q2.2 10) q3.toNatClampNeg)))))))))))))
set_option maxRecDepth 100000 in
set_option maxHeartbeats 4000000 in
theorem c_X8_handOver (l : Launch) (n : Nat) (σ : am_M) (a1 : Int32) (res : am_M) (h : X8_handOver n σ a1 = some res) : am_Con l yX8_handOver cX8_handOver 6 none 8 [.ref 0, .int a1] (wX8 σ) (fun (r : Option Value) (w : am_W) => r = none ∧ w = (wX8 res)) := by
  refine am_metn (n0 := 36) (own := RX8) (cd := am_cdT' tX8_handOver) (rf := am_rfL rfX8) (ini := false) rfl (by decide +kernel) rfl (by decide) dX8_handOver rfX8_ok (Nat.le_of_ble_eq_true rfl) ?_
  intro V hV
  have hP : (fun (r : Option Value) (w : am_W) => r = none ∧ w = (wX8 res)) none (wX8 res) := ⟨rfl, rfl⟩
  show V (wX8 σ) 0 [(0, .ref 0), (1, .int a1)] []
  unfold X8_handOver at h
  refine hV.run 3 [] (ws' := wX8 σ) (pc' := 3) (ls' := [(0, .ref 0), (1, .int a1)]) (st' := [.int 0, .int a1, .ref 0]) (ps := []) rfl trivial ?_
  obtain ⟨q1, hq1, h⟩ := am_bind h
  refine hV.cOi (as := [.int a1, .int 0]) (rest := []) (st := [.int 0, .int a1, .ref 0]) (ws2 := wX8 q1.2) (pc2 := 6) kX8_347 (c_X8_asked l n σ a1 0 q1 hq1) rfl rfl rfl rfl rfl rfl rfl rfl rfl ?_
  refine hV.run 4 [] (ws' := wX8 q1.2) (pc' := 10) (ls' := [(2, .int q1.1), (0, .ref 0), (1, .int a1)]) (st' := [.int 2, .int a1, .ref 0]) (ps := []) rfl trivial ?_
  obtain ⟨q2, hq2, h⟩ := am_bind h
  refine hV.cOi (as := [.int a1, .int 2]) (rest := []) (st := [.int 2, .int a1, .ref 0]) (ws2 := wX8 q2.2) (pc2 := 13) kX8_347 (c_X8_asked l n q1.2 a1 2 q2 hq2) rfl rfl rfl rfl rfl rfl rfl rfl rfl ?_
  refine hV.run 6 [] (ws' := wX8 q2.2) (pc' := 21) (ls' := [(3, .int q2.1), (2, .int q1.1), (0, .ref 0), (1, .int a1)]) (st' := [.int 0, .int a1, .ref 0, .ref 10]) (ps := []) rfl trivial ?_
  obtain ⟨q3, hq3, h⟩ := am_bind h
  refine hV.cOi (as := [.int a1, .int 0]) (rest := [.ref 10]) (st := [.int 0, .int a1, .ref 0, .ref 10]) (ws2 := wX8 q2.2) (pc2 := 24) kX8_337 (c_X8_own l q2.2 a1 0 q3 hq3) rfl rfl rfl rfl rfl rfl rfl rfl rfl ?_
  by_cases g4 : q3 < 0 ∨ 80 ≤ q3.toNatClampNeg
  · rw [if_pos g4] at h; cases h
  rw [if_neg g4] at h
  by_cases g5 : a1 < 0 ∨ 8 ≤ a1.toNatClampNeg
  · rw [if_pos g5] at h; cases h
  rw [if_neg g5] at h
  by_cases g6 : q1.1 < 0 ∨ 8 ≤ q1.1.toNatClampNeg
  · rw [if_pos g6] at h; cases h
  rw [if_neg g6] at h
  refine hV.run 10 [] (ws' := wX8 q2.2) (pc' := 39) (ls' := [(4, .int ((q2.2 10) q3.toNatClampNeg)), (3, .int q2.1), (2, .int q1.1), (0, .ref 0), (1, .int a1)]) (st' := [.int ((q2.2 17) q1.1.toNatClampNeg), .int ((q2.2 17) a1.toNatClampNeg)]) (ps := [vp_in q3 80, vp_in a1 8, vp_in q1.1 8]) rfl ⟨g4, g5, g6, trivial⟩ ?_
  refine hV.cSi (as := [.int ((q2.2 17) a1.toNatClampNeg), .int ((q2.2 17) q1.1.toNatClampNeg)]) (js := []) (rest := []) (st := [.int ((q2.2 17) q1.1.toNatClampNeg), .int ((q2.2 17) a1.toNatClampNeg)]) (ws2 := wX8 q2.2) (pc2 := 42) kX8_396 (c_J9_max_7cf53 l ((q2.2 17) a1.toNatClampNeg) ((q2.2 17) q1.1.toNatClampNeg)) rfl rfl rfl rfl rfl rfl rfl rfl rfl rfl ?_
  refine hV.run 4 [] (ws' := wX8 q2.2) (pc' := 48) (ls' := [(5, .int (J9_max_7cf53 ((q2.2 17) a1.toNatClampNeg) ((q2.2 17) q1.1.toNatClampNeg))), (4, .int ((q2.2 10) q3.toNatClampNeg)), (3, .int q2.1), (2, .int q1.1), (0, .ref 0), (1, .int a1)]) (st' := [.int (J9_max_7cf53 ((q2.2 17) a1.toNatClampNeg) ((q2.2 17) q1.1.toNatClampNeg)), .int a1, .ref 0]) (ps := []) rfl trivial ?_
  obtain ⟨q7, hq7, h⟩ := am_bind h
  refine hV.cOv (as := [.int a1, .int (J9_max_7cf53 ((q2.2 17) a1.toNatClampNeg) ((q2.2 17) q1.1.toNatClampNeg))]) (rest := []) (st := [.int (J9_max_7cf53 ((q2.2 17) a1.toNatClampNeg) ((q2.2 17) q1.1.toNatClampNeg)), .int a1, .ref 0]) (ws2 := wX8 q7) (pc2 := 51) kX8_399 (c_X8_upTo l q2.2 a1 (J9_max_7cf53 ((q2.2 17) a1.toNatClampNeg) ((q2.2 17) q1.1.toNatClampNeg)) q7 hq7) rfl rfl rfl rfl rfl rfl rfl rfl rfl ?_
  refine hV.run 3 [] (ws' := wX8 q7) (pc' := 55) (ls' := [(5, .int (J9_max_7cf53 ((q2.2 17) a1.toNatClampNeg) ((q2.2 17) q1.1.toNatClampNeg))), (4, .int ((q2.2 10) q3.toNatClampNeg)), (3, .int q2.1), (2, .int q1.1), (0, .ref 0), (1, .int a1)]) (st' := [.int (J9_max_7cf53 ((q2.2 17) a1.toNatClampNeg) ((q2.2 17) q1.1.toNatClampNeg)), .int q1.1, .ref 0]) (ps := []) rfl trivial ?_
  obtain ⟨q8, hq8, h⟩ := am_bind h
  refine hV.cOv (as := [.int q1.1, .int (J9_max_7cf53 ((q2.2 17) a1.toNatClampNeg) ((q2.2 17) q1.1.toNatClampNeg))]) (rest := []) (st := [.int (J9_max_7cf53 ((q2.2 17) a1.toNatClampNeg) ((q2.2 17) q1.1.toNatClampNeg)), .int q1.1, .ref 0]) (ws2 := wX8 q8) (pc2 := 58) kX8_399 (c_X8_upTo l q7 q1.1 (J9_max_7cf53 ((q2.2 17) a1.toNatClampNeg) ((q2.2 17) q1.1.toNatClampNeg)) q8 hq8) rfl rfl rfl rfl rfl rfl rfl rfl rfl ?_
  by_cases g9 : a1 < 0 ∨ 8 ≤ a1.toNatClampNeg
  · rw [if_pos g9] at h; cases h
  rw [if_neg g9] at h
  refine hV.run 9 [] (ws' := wX8 q8) (pc' := 69) (ls' := [(5, .int (J9_max_7cf53 ((q2.2 17) a1.toNatClampNeg) ((q2.2 17) q1.1.toNatClampNeg))), (4, .int ((q2.2 10) q3.toNatClampNeg)), (3, .int q2.1), (2, .int q1.1), (0, .ref 0), (1, .int a1)]) (st' := [.int q1.1, .int a1, .ref 0, .int 1, .int (q8 17 a1.toNatClampNeg), .int a1, .ref 17]) (ps := [vp_in a1 8]) rfl ⟨g9, trivial⟩ ?_
  refine hV.cOi (as := [.int a1, .int q1.1]) (rest := [.int 1, .int (q8 17 a1.toNatClampNeg), .int a1, .ref 17]) (st := [.int q1.1, .int a1, .ref 0, .int 1, .int (q8 17 a1.toNatClampNeg), .int a1, .ref 17]) (ws2 := wX8 q8) (pc2 := 72) kX8_369 (c_X8_farOf l q8 a1 q1.1) rfl rfl rfl rfl rfl rfl rfl rfl rfl ?_
  by_cases g10 : a1 < 0 ∨ 8 ≤ a1.toNatClampNeg
  · rw [if_pos g10] at h; cases h
  rw [if_neg g10] at h
  by_cases g11 : a1 < 0 ∨ 8 ≤ a1.toNatClampNeg
  · rw [if_pos g11] at h; cases h
  rw [if_neg g11] at h
  by_cases g12 : q1.1 < 0 ∨ 8 ≤ q1.1.toNatClampNeg
  · rw [if_pos g12] at h; cases h
  rw [if_neg g12] at h
  refine hV.run 14 [] (ws' := wX8 (sC q8 17 (upd (upd (q8 17) a1.toNatClampNeg ((q8 17 a1.toNatClampNeg) + (1 + (X8_farOf q8 a1 q1.1)))) q1.1.toNatClampNeg ((upd (q8 17) a1.toNatClampNeg ((q8 17 a1.toNatClampNeg) + (1 + (X8_farOf q8 a1 q1.1)))) a1.toNatClampNeg)))) (pc' := 90) (ls' := [(5, .int (J9_max_7cf53 ((q2.2 17) a1.toNatClampNeg) ((q2.2 17) q1.1.toNatClampNeg))), (4, .int ((q2.2 10) q3.toNatClampNeg)), (3, .int q2.1), (2, .int q1.1), (0, .ref 0), (1, .int a1)]) (st' := [.int 4, .int q1.1, .ref 0]) (ps := [vp_in a1 8, vp_in a1 8, vp_in q1.1 8]) rfl ⟨g10, g11, g12, trivial⟩ ?_
  obtain ⟨q13, hq13, h⟩ := am_bind h
  refine hV.cOi (as := [.int q1.1, .int 4]) (rest := []) (st := [.int 4, .int q1.1, .ref 0]) (ws2 := wX8 (sC q8 17 (upd (upd (q8 17) a1.toNatClampNeg ((q8 17 a1.toNatClampNeg) + (1 + (X8_farOf q8 a1 q1.1)))) q1.1.toNatClampNeg ((upd (q8 17) a1.toNatClampNeg ((q8 17 a1.toNatClampNeg) + (1 + (X8_farOf q8 a1 q1.1)))) a1.toNatClampNeg)))) (pc2 := 93) kX8_375 (c_X8_isAt l (sC q8 17 (upd (upd (q8 17) a1.toNatClampNeg ((q8 17 a1.toNatClampNeg) + (1 + (X8_farOf q8 a1 q1.1)))) q1.1.toNatClampNeg ((upd (q8 17) a1.toNatClampNeg ((q8 17 a1.toNatClampNeg) + (1 + (X8_farOf q8 a1 q1.1)))) a1.toNatClampNeg))) q1.1 4 q13 hq13) rfl rfl rfl rfl rfl rfl rfl rfl rfl ?_
  by_cases c14 : q13 = true
  · rw [if_pos c14] at h
    refine hV.run 4 [0] (ws' := wX8 (sC q8 17 (upd (upd (q8 17) a1.toNatClampNeg ((q8 17 a1.toNatClampNeg) + (1 + (X8_farOf q8 a1 q1.1)))) q1.1.toNatClampNeg ((upd (q8 17) a1.toNatClampNeg ((q8 17 a1.toNatClampNeg) + (1 + (X8_farOf q8 a1 q1.1)))) a1.toNatClampNeg)))) (pc' := 99) (ls' := [(5, .int (J9_max_7cf53 ((q2.2 17) a1.toNatClampNeg) ((q2.2 17) q1.1.toNatClampNeg))), (4, .int ((q2.2 10) q3.toNatClampNeg)), (3, .int q2.1), (2, .int q1.1), (0, .ref 0), (1, .int a1)]) (st' := [.int a1, .int q1.1, .ref 0]) (ps := [¬ (b2i q13) = 0]) rfl ⟨(b2i_t c14), trivial⟩ ?_
    obtain ⟨q15, hq15, h⟩ := am_bind h
    refine hV.cOv (as := [.int q1.1, .int a1]) (rest := []) (st := [.int a1, .int q1.1, .ref 0]) (ws2 := wX8 q15) (pc2 := 102) kX8_409 (c_X8_noteAny l (sC q8 17 (upd (upd (q8 17) a1.toNatClampNeg ((q8 17 a1.toNatClampNeg) + (1 + (X8_farOf q8 a1 q1.1)))) q1.1.toNatClampNeg ((upd (q8 17) a1.toNatClampNeg ((q8 17 a1.toNatClampNeg) + (1 + (X8_farOf q8 a1 q1.1)))) a1.toNatClampNeg))) q1.1 a1 q15 hq15) rfl rfl rfl rfl rfl rfl rfl rfl rfl ?_
    refine hV.pick [4, 5, 3, 2, 1] (ls' := [(0, .ref 0), (1, .int a1), (2, .int q1.1), (3, .int q2.1), (4, .int ((q2.2 10) q3.toNatClampNeg))]) rfl ?_
    exact p_X8_handOver_J102 hV n res hP q15 a1 q1.1 q2.1 ((q2.2 10) q3.toNatClampNeg) h
  · rw [if_neg c14] at h
    refine hV.run 1 [1] (ws' := wX8 (sC q8 17 (upd (upd (q8 17) a1.toNatClampNeg ((q8 17 a1.toNatClampNeg) + (1 + (X8_farOf q8 a1 q1.1)))) q1.1.toNatClampNeg ((upd (q8 17) a1.toNatClampNeg ((q8 17 a1.toNatClampNeg) + (1 + (X8_farOf q8 a1 q1.1)))) a1.toNatClampNeg)))) (pc' := 102) (ls' := [(5, .int (J9_max_7cf53 ((q2.2 17) a1.toNatClampNeg) ((q2.2 17) q1.1.toNatClampNeg))), (4, .int ((q2.2 10) q3.toNatClampNeg)), (3, .int q2.1), (2, .int q1.1), (0, .ref 0), (1, .int a1)]) (st' := []) (ps := [(b2i q13) = 0]) rfl ⟨(b2i_f c14), trivial⟩ ?_
    refine hV.pick [4, 5, 3, 2, 1] (ls' := [(0, .ref 0), (1, .int a1), (2, .int q1.1), (3, .int q2.1), (4, .int ((q2.2 10) q3.toNatClampNeg))]) rfl ?_
    exact p_X8_handOver_J102 hV n res hP (sC q8 17 (upd (upd (q8 17) a1.toNatClampNeg ((q8 17 a1.toNatClampNeg) + (1 + (X8_farOf q8 a1 q1.1)))) q1.1.toNatClampNeg ((upd (q8 17) a1.toNatClampNeg ((q8 17 a1.toNatClampNeg) + (1 + (X8_farOf q8 a1 q1.1)))) a1.toNatClampNeg))) a1 q1.1 q2.1 ((q2.2 10) q3.toNatClampNeg) h

def X8_together_B120 (n : Nat) (kont120 : am_M → Int32 → Option am_M) (σ : am_M) (l4 : Int32) : Option am_M := if (σ 0 3) ≤ l4 then (some σ) else (X8_goOn n σ l4).bind (fun q2 => kont120 q2 (l4 + 1))
def X8_together_L120 (n : Nat) : Nat → am_M → Int32 → Option am_M
 | 0 => fun _ _ => none
 | k + 1 => fun σ l4 => X8_together_B120 n (X8_together_L120 n k) σ l4
set_option maxRecDepth 100000 in
set_option maxHeartbeats 4000000 in
theorem p_X8_together_B120 {l : Launch} {Post : Option Value → am_W → Prop} {V : am_VT} (hV : am_B l RX8 false 7 (am_cdT' tX8_together) (am_rfL rfX8) none Post 36 V) (n : Nat) (res : am_M) (hP : Post none (wX8 res)) (kont120 : am_M → Int32 → Option am_M) (hk120 : ∀ (σ : am_M) (l4 : Int32), kont120 σ l4 = some res → V (wX8 σ) 120 [(0, .ref 0), (4, .int l4)] []) (σ : am_M) (l4 : Int32) (h : X8_together_B120 n kont120 σ l4 = some res) : V (wX8 σ) 120 [(0, .ref 0), (4, .int l4)] [] := by
  unfold X8_together_B120 at h
  by_cases c1 : (σ 0 3) ≤ l4
  · rw [if_pos c1] at h
    refine hV.run 4 [1] (ws' := wX8 σ) (pc' := 141) (ls' := [(0, .ref 0), (4, .int l4)]) (st' := []) (ps := [(σ 0 3) ≤ l4]) rfl ⟨c1, trivial⟩ ?_
    cases h
    exact hV.rv rfl rfl rfl hP
  · rw [if_neg c1] at h
    refine hV.run 6 [0] (ws' := wX8 σ) (pc' := 132) (ls' := [(0, .ref 0), (4, .int l4)]) (st' := [.int l4, .ref 0]) (ps := [¬ (σ 0 3) ≤ l4]) rfl ⟨c1, trivial⟩ ?_
    obtain ⟨q2, hq2, h⟩ := am_bind h
    refine hV.cOv (as := [.int l4]) (rest := []) (st := [.int l4, .ref 0]) (ws2 := wX8 q2) (pc2 := 135) kX8_372 (c_X8_goOn l n σ l4 q2 hq2) rfl rfl rfl rfl rfl rfl rfl rfl rfl ?_
    refine hV.run 2 [] (ws' := wX8 q2) (pc' := 120) (ls' := [(4, .int (l4 + 1)), (0, .ref 0)]) (st' := []) (ps := []) rfl trivial ?_
    refine hV.pick [1, 0] (ls' := [(0, .ref 0), (4, .int (l4 + 1))]) rfl ?_
    exact hk120 q2 (l4 + 1) h
theorem p_X8_together_L120 {l : Launch} {Post : Option Value → am_W → Prop} {V : am_VT} (hV : am_B l RX8 false 7 (am_cdT' tX8_together) (am_rfL rfX8) none Post 36 V) (n : Nat) (res : am_M) (hP : Post none (wX8 res)) : ∀ (k : Nat) (σ : am_M) (l4 : Int32) (h : X8_together_L120 n k σ l4 = some res), V (wX8 σ) 120 [(0, .ref 0), (4, .int l4)] [] := by
  intro k
  induction k with
  | zero => intro σ l4 h; cases h
  | succ k ih => intro σ l4 h; exact p_X8_together_B120 hV n res hP _ ih σ l4 h
def X8_together_J111 (n : Nat) (kont57 : am_M → Int32 → Int32 → Int32 → Int32 → Option am_M) (σ : am_M) (l1 : Int32) (l2 : Int32) (l3 : Int32) (l4 : Int32) : Option am_M := kont57 σ l1 l2 l3 (l4 + 1)
set_option maxRecDepth 100000 in
set_option maxHeartbeats 4000000 in
theorem p_X8_together_J111 {l : Launch} {Post : Option Value → am_W → Prop} {V : am_VT} (hV : am_B l RX8 false 7 (am_cdT' tX8_together) (am_rfL rfX8) none Post 36 V) (n : Nat) (res : am_M) (hP : Post none (wX8 res)) (kont57 : am_M → Int32 → Int32 → Int32 → Int32 → Option am_M) (hk57 : ∀ (σ : am_M) (l1 : Int32) (l2 : Int32) (l3 : Int32) (l4 : Int32), kont57 σ l1 l2 l3 l4 = some res → V (wX8 σ) 57 [(0, .ref 0), (1, .int l1), (2, .int l2), (3, .int l3), (4, .int l4)] []) (σ : am_M) (l1 : Int32) (l2 : Int32) (l3 : Int32) (l4 : Int32) (h : X8_together_J111 n kont57 σ l1 l2 l3 l4 = some res) : V (wX8 σ) 111 [(0, .ref 0), (1, .int l1), (2, .int l2), (3, .int l3), (4, .int l4)] [] := by
  unfold X8_together_J111 at h
  refine hV.run 2 [] (ws' := wX8 σ) (pc' := 57) (ls' := [(4, .int (l4 + 1)), (0, .ref 0), (1, .int l1), (2, .int l2), (3, .int l3)]) (st' := []) (ps := []) rfl trivial ?_
  refine hV.pick [1, 2, 3, 4, 0] (ls' := [(0, .ref 0), (1, .int l1), (2, .int l2), (3, .int l3), (4, .int (l4 + 1))]) rfl ?_
  exact hk57 σ l1 l2 l3 (l4 + 1) h
def X8_together_B57 (n : Nat) (kont57 : am_M → Int32 → Int32 → Int32 → Int32 → Option am_M) (σ : am_M) (l1 : Int32) (l2 : Int32) (l3 : Int32) (l4 : Int32) : Option am_M := if (σ 0 3) ≤ l4 then (X8_together_L120 n n σ 0) else (X8_upTo σ l4 l2).bind (fun q2 => if l4 < 0 ∨ 8 ≤ l4.toNatClampNeg then none else (if l4 < 0 ∨ 8 ≤ l4.toNatClampNeg then none else (if l1 = 7 then (X8_own (sC q2 17 (upd (q2 17) l4.toNatClampNeg ((q2 17 l4.toNatClampNeg) + 1))) l4 0).bind (fun q6 => if q6 < 0 ∨ 80 ≤ q6.toNatClampNeg then none else (X8_put (sC q2 17 (upd (q2 17) l4.toNatClampNeg ((q2 17 l4.toNatClampNeg) + 1))) l4 (2 + (q2 9 q6.toNatClampNeg)) l3).bind (fun q8 => X8_together_J111 n kont57 q8 l1 l2 l3 l4)) else (X8_together_J111 n kont57 (sC q2 17 (upd (q2 17) l4.toNatClampNeg ((q2 17 l4.toNatClampNeg) + 1))) l1 l2 l3 l4))))
def X8_together_L57 (n : Nat) : Nat → am_M → Int32 → Int32 → Int32 → Int32 → Option am_M
 | 0 => fun _ _ _ _ _ => none
 | k + 1 => fun σ l1 l2 l3 l4 => X8_together_B57 n (X8_together_L57 n k) σ l1 l2 l3 l4
set_option maxRecDepth 100000 in
set_option maxHeartbeats 4000000 in
theorem p_X8_together_B57 {l : Launch} {Post : Option Value → am_W → Prop} {V : am_VT} (hV : am_B l RX8 false 7 (am_cdT' tX8_together) (am_rfL rfX8) none Post 36 V) (n : Nat) (res : am_M) (hP : Post none (wX8 res)) (kont57 : am_M → Int32 → Int32 → Int32 → Int32 → Option am_M) (hk57 : ∀ (σ : am_M) (l1 : Int32) (l2 : Int32) (l3 : Int32) (l4 : Int32), kont57 σ l1 l2 l3 l4 = some res → V (wX8 σ) 57 [(0, .ref 0), (1, .int l1), (2, .int l2), (3, .int l3), (4, .int l4)] []) (σ : am_M) (l1 : Int32) (l2 : Int32) (l3 : Int32) (l4 : Int32) (h : X8_together_B57 n kont57 σ l1 l2 l3 l4 = some res) : V (wX8 σ) 57 [(0, .ref 0), (1, .int l1), (2, .int l2), (3, .int l3), (4, .int l4)] [] := by
  unfold X8_together_B57 at h
  by_cases c1 : (σ 0 3) ≤ l4
  · rw [if_pos c1] at h
    refine hV.run 6 [1] (ws' := wX8 σ) (pc' := 120) (ls' := [(4, .int 0), (0, .ref 0), (1, .int l1), (2, .int l2), (3, .int l3)]) (st' := []) (ps := [(σ 0 3) ≤ l4]) rfl ⟨c1, trivial⟩ ?_
    refine hV.pick [1, 0] (ls' := [(0, .ref 0), (4, .int 0)]) rfl ?_
    exact p_X8_together_L120 hV n res hP n σ 0 h
  · rw [if_neg c1] at h
    refine hV.run 7 [0] (ws' := wX8 σ) (pc' := 70) (ls' := [(0, .ref 0), (1, .int l1), (2, .int l2), (3, .int l3), (4, .int l4)]) (st' := [.int l2, .int l4, .ref 0]) (ps := [¬ (σ 0 3) ≤ l4]) rfl ⟨c1, trivial⟩ ?_
    obtain ⟨q2, hq2, h⟩ := am_bind h
    refine hV.cOv (as := [.int l4, .int l2]) (rest := []) (st := [.int l2, .int l4, .ref 0]) (ws2 := wX8 q2) (pc2 := 73) kX8_399 (c_X8_upTo l σ l4 l2 q2 hq2) rfl rfl rfl rfl rfl rfl rfl rfl rfl ?_
    by_cases g3 : l4 < 0 ∨ 8 ≤ l4.toNatClampNeg
    · rw [if_pos g3] at h; cases h
    rw [if_neg g3] at h
    by_cases g4 : l4 < 0 ∨ 8 ≤ l4.toNatClampNeg
    · rw [if_pos g4] at h; cases h
    rw [if_neg g4] at h
    by_cases c5 : l1 = 7
    · rw [if_pos c5] at h
      refine hV.run 19 [0] (ws' := wX8 (sC q2 17 (upd (q2 17) l4.toNatClampNeg ((q2 17 l4.toNatClampNeg) + 1)))) (pc' := 102) (ls' := [(0, .ref 0), (1, .int l1), (2, .int l2), (3, .int l3), (4, .int l4)]) (st' := [.int 0, .int l4, .ref 0, .ref 9, .int 2, .int l4, .ref 0]) (ps := [vp_in l4 8, vp_in l4 8, l1 = 7]) rfl ⟨g3, g4, c5, trivial⟩ ?_
      obtain ⟨q6, hq6, h⟩ := am_bind h
      refine hV.cOi (as := [.int l4, .int 0]) (rest := [.ref 9, .int 2, .int l4, .ref 0]) (st := [.int 0, .int l4, .ref 0, .ref 9, .int 2, .int l4, .ref 0]) (ws2 := wX8 (sC q2 17 (upd (q2 17) l4.toNatClampNeg ((q2 17 l4.toNatClampNeg) + 1)))) (pc2 := 105) kX8_337 (c_X8_own l (sC q2 17 (upd (q2 17) l4.toNatClampNeg ((q2 17 l4.toNatClampNeg) + 1))) l4 0 q6 hq6) rfl rfl rfl rfl rfl rfl rfl rfl rfl ?_
      by_cases g7 : q6 < 0 ∨ 80 ≤ q6.toNatClampNeg
      · rw [if_pos g7] at h; cases h
      rw [if_neg g7] at h
      refine hV.run 3 [] (ws' := wX8 (sC q2 17 (upd (q2 17) l4.toNatClampNeg ((q2 17 l4.toNatClampNeg) + 1)))) (pc' := 108) (ls' := [(0, .ref 0), (1, .int l1), (2, .int l2), (3, .int l3), (4, .int l4)]) (st' := [.int l3, .int (2 + (q2 9 q6.toNatClampNeg)), .int l4, .ref 0]) (ps := [vp_in q6 80]) rfl ⟨g7, trivial⟩ ?_
      obtain ⟨q8, hq8, h⟩ := am_bind h
      refine hV.cOv (as := [.int l4, .int (2 + (q2 9 q6.toNatClampNeg)), .int l3]) (rest := []) (st := [.int l3, .int (2 + (q2 9 q6.toNatClampNeg)), .int l4, .ref 0]) (ws2 := wX8 q8) (pc2 := 111) kX8_350 (c_X8_put l (sC q2 17 (upd (q2 17) l4.toNatClampNeg ((q2 17 l4.toNatClampNeg) + 1))) l4 (2 + (q2 9 q6.toNatClampNeg)) l3 q8 hq8) rfl rfl rfl rfl rfl rfl rfl rfl rfl ?_
      exact p_X8_together_J111 hV n res hP kont57 hk57 q8 l1 l2 l3 l4 h
    · rw [if_neg c5] at h
      refine hV.run 11 [1] (ws' := wX8 (sC q2 17 (upd (q2 17) l4.toNatClampNeg ((q2 17 l4.toNatClampNeg) + 1)))) (pc' := 111) (ls' := [(0, .ref 0), (1, .int l1), (2, .int l2), (3, .int l3), (4, .int l4)]) (st' := []) (ps := [vp_in l4 8, vp_in l4 8, ¬ l1 = 7]) rfl ⟨g3, g4, c5, trivial⟩ ?_
      exact p_X8_together_J111 hV n res hP kont57 hk57 (sC q2 17 (upd (q2 17) l4.toNatClampNeg ((q2 17 l4.toNatClampNeg) + 1))) l1 l2 l3 l4 h
theorem p_X8_together_L57 {l : Launch} {Post : Option Value → am_W → Prop} {V : am_VT} (hV : am_B l RX8 false 7 (am_cdT' tX8_together) (am_rfL rfX8) none Post 36 V) (n : Nat) (res : am_M) (hP : Post none (wX8 res)) : ∀ (k : Nat) (σ : am_M) (l1 : Int32) (l2 : Int32) (l3 : Int32) (l4 : Int32) (h : X8_together_L57 n k σ l1 l2 l3 l4 = some res), V (wX8 σ) 57 [(0, .ref 0), (1, .int l1), (2, .int l2), (3, .int l3), (4, .int l4)] [] := by
  intro k
  induction k with
  | zero => intro σ l1 l2 l3 l4 h; cases h
  | succ k ih => intro σ l1 l2 l3 l4 h; exact p_X8_together_B57 hV n res hP _ ih σ l1 l2 l3 l4 h
def X8_together_J46 (n : Nat) (kont7 : am_M → Int32 → Int32 → Int32 → Int32 → Option am_M) (σ : am_M) (l1 : Int32) (l2 : Int32) (l4 : Int32) (s0 : Int32) (s1 : Int32) : Option am_M := kont7 σ l1 l2 (s1 + s0) (l4 + 1)
set_option maxRecDepth 100000 in
set_option maxHeartbeats 4000000 in
theorem p_X8_together_J46 {l : Launch} {Post : Option Value → am_W → Prop} {V : am_VT} (hV : am_B l RX8 false 7 (am_cdT' tX8_together) (am_rfL rfX8) none Post 36 V) (n : Nat) (res : am_M) (hP : Post none (wX8 res)) (kont7 : am_M → Int32 → Int32 → Int32 → Int32 → Option am_M) (hk7 : ∀ (σ : am_M) (l1 : Int32) (l2 : Int32) (l3 : Int32) (l4 : Int32), kont7 σ l1 l2 l3 l4 = some res → V (wX8 σ) 7 [(0, .ref 0), (1, .int l1), (2, .int l2), (3, .int l3), (4, .int l4)] []) (σ : am_M) (l1 : Int32) (l2 : Int32) (l4 : Int32) (s0 : Int32) (s1 : Int32) (h : X8_together_J46 n kont7 σ l1 l2 l4 s0 s1 = some res) : V (wX8 σ) 46 [(0, .ref 0), (1, .int l1), (2, .int l2), (4, .int l4)] [.int s0, .int s1] := by
  unfold X8_together_J46 at h
  refine hV.run 4 [] (ws' := wX8 σ) (pc' := 7) (ls' := [(4, .int (l4 + 1)), (3, .int (s1 + s0)), (0, .ref 0), (1, .int l1), (2, .int l2)]) (st' := []) (ps := []) rfl trivial ?_
  refine hV.pick [2, 3, 4, 1, 0] (ls' := [(0, .ref 0), (1, .int l1), (2, .int l2), (3, .int (s1 + s0)), (4, .int (l4 + 1))]) rfl ?_
  exact hk7 σ l1 l2 (s1 + s0) (l4 + 1) h
def X8_together_B7 (n : Nat) (kont7 : am_M → Int32 → Int32 → Int32 → Int32 → Option am_M) (σ : am_M) (l1 : Int32) (l2 : Int32) (l3 : Int32) (l4 : Int32) : Option am_M := if (σ 0 3) ≤ l4 then (X8_together_L57 n n σ l1 l2 l3 0) else (if l4 < 0 ∨ 8 ≤ l4.toNatClampNeg then none else (if l1 = 7 then (X8_asked n σ l4 0).bind (fun q4 => X8_together_J46 n kont7 q4.2 l1 (J9_max_7cf53 l2 (σ 17 l4.toNatClampNeg)) l4 q4.1 l3) else (X8_together_J46 n kont7 σ l1 (J9_max_7cf53 l2 (σ 17 l4.toNatClampNeg)) l4 0 l3)))
def X8_together_L7 (n : Nat) : Nat → am_M → Int32 → Int32 → Int32 → Int32 → Option am_M
 | 0 => fun _ _ _ _ _ => none
 | k + 1 => fun σ l1 l2 l3 l4 => X8_together_B7 n (X8_together_L7 n k) σ l1 l2 l3 l4
set_option maxRecDepth 100000 in
set_option maxHeartbeats 4000000 in
theorem p_X8_together_B7 {l : Launch} {Post : Option Value → am_W → Prop} {V : am_VT} (hV : am_B l RX8 false 7 (am_cdT' tX8_together) (am_rfL rfX8) none Post 36 V) (n : Nat) (res : am_M) (hP : Post none (wX8 res)) (kont7 : am_M → Int32 → Int32 → Int32 → Int32 → Option am_M) (hk7 : ∀ (σ : am_M) (l1 : Int32) (l2 : Int32) (l3 : Int32) (l4 : Int32), kont7 σ l1 l2 l3 l4 = some res → V (wX8 σ) 7 [(0, .ref 0), (1, .int l1), (2, .int l2), (3, .int l3), (4, .int l4)] []) (σ : am_M) (l1 : Int32) (l2 : Int32) (l3 : Int32) (l4 : Int32) (h : X8_together_B7 n kont7 σ l1 l2 l3 l4 = some res) : V (wX8 σ) 7 [(0, .ref 0), (1, .int l1), (2, .int l2), (3, .int l3), (4, .int l4)] [] := by
  unfold X8_together_B7 at h
  by_cases c1 : (σ 0 3) ≤ l4
  · rw [if_pos c1] at h
    refine hV.run 6 [1] (ws' := wX8 σ) (pc' := 57) (ls' := [(4, .int 0), (0, .ref 0), (1, .int l1), (2, .int l2), (3, .int l3)]) (st' := []) (ps := [(σ 0 3) ≤ l4]) rfl ⟨c1, trivial⟩ ?_
    refine hV.pick [1, 2, 3, 4, 0] (ls' := [(0, .ref 0), (1, .int l1), (2, .int l2), (3, .int l3), (4, .int 0)]) rfl ?_
    exact p_X8_together_L57 hV n res hP n σ l1 l2 l3 0 h
  · rw [if_neg c1] at h
    by_cases g2 : l4 < 0 ∨ 8 ≤ l4.toNatClampNeg
    · rw [if_pos g2] at h; cases h
    rw [if_neg g2] at h
    refine hV.run 9 [0] (ws' := wX8 σ) (pc' := 24) (ls' := [(0, .ref 0), (1, .int l1), (2, .int l2), (3, .int l3), (4, .int l4)]) (st' := [.int (σ 17 l4.toNatClampNeg), .int l2]) (ps := [¬ (σ 0 3) ≤ l4, vp_in l4 8]) rfl ⟨c1, g2, trivial⟩ ?_
    refine hV.cSi (as := [.int l2, .int (σ 17 l4.toNatClampNeg)]) (js := []) (rest := []) (st := [.int (σ 17 l4.toNatClampNeg), .int l2]) (ws2 := wX8 σ) (pc2 := 27) kX8_396 (c_J9_max_7cf53 l l2 (σ 17 l4.toNatClampNeg)) rfl rfl rfl rfl rfl rfl rfl rfl rfl rfl ?_
    by_cases c3 : l1 = 7
    · rw [if_pos c3] at h
      refine hV.run 8 [0] (ws' := wX8 σ) (pc' := 39) (ls' := [(2, .int (J9_max_7cf53 l2 (σ 17 l4.toNatClampNeg))), (0, .ref 0), (1, .int l1), (3, .int l3), (4, .int l4)]) (st' := [.int 0, .int l4, .ref 0, .int l3]) (ps := [l1 = 7]) rfl ⟨c3, trivial⟩ ?_
      obtain ⟨q4, hq4, h⟩ := am_bind h
      refine hV.cOi (as := [.int l4, .int 0]) (rest := [.int l3]) (st := [.int 0, .int l4, .ref 0, .int l3]) (ws2 := wX8 q4.2) (pc2 := 42) kX8_347 (c_X8_asked l n σ l4 0 q4 hq4) rfl rfl rfl rfl rfl rfl rfl rfl rfl ?_
      refine hV.run 1 [] (ws' := wX8 q4.2) (pc' := 46) (ls' := [(2, .int (J9_max_7cf53 l2 (σ 17 l4.toNatClampNeg))), (0, .ref 0), (1, .int l1), (3, .int l3), (4, .int l4)]) (st' := [.int q4.1, .int l3]) (ps := []) rfl trivial ?_
      refine hV.pick [1, 2, 0, 4] (ls' := [(0, .ref 0), (1, .int l1), (2, .int (J9_max_7cf53 l2 (σ 17 l4.toNatClampNeg))), (4, .int l4)]) rfl ?_
      exact p_X8_together_J46 hV n res hP kont7 hk7 q4.2 l1 (J9_max_7cf53 l2 (σ 17 l4.toNatClampNeg)) l4 q4.1 l3 h
    · rw [if_neg c3] at h
      refine hV.run 6 [1] (ws' := wX8 σ) (pc' := 46) (ls' := [(2, .int (J9_max_7cf53 l2 (σ 17 l4.toNatClampNeg))), (0, .ref 0), (1, .int l1), (3, .int l3), (4, .int l4)]) (st' := [.int 0, .int l3]) (ps := [¬ l1 = 7]) rfl ⟨c3, trivial⟩ ?_
      refine hV.pick [1, 2, 0, 4] (ls' := [(0, .ref 0), (1, .int l1), (2, .int (J9_max_7cf53 l2 (σ 17 l4.toNatClampNeg))), (4, .int l4)]) rfl ?_
      exact p_X8_together_J46 hV n res hP kont7 hk7 σ l1 (J9_max_7cf53 l2 (σ 17 l4.toNatClampNeg)) l4 0 l3 h
theorem p_X8_together_L7 {l : Launch} {Post : Option Value → am_W → Prop} {V : am_VT} (hV : am_B l RX8 false 7 (am_cdT' tX8_together) (am_rfL rfX8) none Post 36 V) (n : Nat) (res : am_M) (hP : Post none (wX8 res)) : ∀ (k : Nat) (σ : am_M) (l1 : Int32) (l2 : Int32) (l3 : Int32) (l4 : Int32) (h : X8_together_L7 n k σ l1 l2 l3 l4 = some res), V (wX8 σ) 7 [(0, .ref 0), (1, .int l1), (2, .int l2), (3, .int l3), (4, .int l4)] [] := by
  intro k
  induction k with
  | zero => intro σ l1 l2 l3 l4 h; cases h
  | succ k ih => intro σ l1 l2 l3 l4 h; exact p_X8_together_B7 hV n res hP _ ih σ l1 l2 l3 l4 h
def X8_together (n : Nat) (σ : am_M) (a1 : Int32) : Option am_M := X8_together_L7 n n σ a1 0 0 0
set_option maxRecDepth 100000 in
set_option maxHeartbeats 4000000 in
theorem c_X8_together (l : Launch) (n : Nat) (σ : am_M) (a1 : Int32) (res : am_M) (h : X8_together n σ a1 = some res) : am_Con l yX8_together cX8_together 5 none 7 [.ref 0, .int a1] (wX8 σ) (fun (r : Option Value) (w : am_W) => r = none ∧ w = (wX8 res)) := by
  refine am_metn (n0 := 36) (own := RX8) (cd := am_cdT' tX8_together) (rf := am_rfL rfX8) (ini := false) rfl (by decide +kernel) rfl (by decide) dX8_together rfX8_ok (Nat.le_of_ble_eq_true rfl) ?_
  intro V hV
  have hP : (fun (r : Option Value) (w : am_W) => r = none ∧ w = (wX8 res)) none (wX8 res) := ⟨rfl, rfl⟩
  show V (wX8 σ) 0 [(0, .ref 0), (1, .int a1)] []
  unfold X8_together at h
  refine hV.run 6 [] (ws' := wX8 σ) (pc' := 7) (ls' := [(4, .int 0), (3, .int 0), (2, .int 0), (0, .ref 0), (1, .int a1)]) (st' := []) (ps := []) rfl trivial ?_
  refine hV.pick [3, 4, 2, 1, 0] (ls' := [(0, .ref 0), (1, .int a1), (2, .int 0), (3, .int 0), (4, .int 0)]) rfl ?_
  exact p_X8_together_L7 hV n res hP n σ a1 0 0 0 h

def X8_move (n : Nat) (σ : am_M) (a1 : Int32) (a2 : Int32) : Option am_M := (X8_own σ a1 0).bind (fun q1 => if q1 < 0 ∨ 80 ≤ q1.toNatClampNeg then none else (if (σ 6 q1.toNatClampNeg) = 0 then (X8_asked n (sC σ 0 (am_u (σ 0) 40 (-1))) a1 0).bind (fun q4 => (X8_sent n q4.2 a1 q4.1).bind (fun q5 => if (q4.2 0 4) ≤ q5 then (X8_handOver n q4.2 a1).bind (fun q7 => some q7) else (X8_lay n q4.2 a1 0).bind (fun q8 => if a1 < 0 ∨ 8 ≤ a1.toNatClampNeg then none else (if a1 < 0 ∨ 8 ≤ a1.toNatClampNeg then none else (X8_goOn n (sC q8 17 (upd (q8 17) a1.toNatClampNeg ((q8 17 a1.toNatClampNeg) + 1))) a1).bind (fun q11 => some q11))))) else (if (σ 6 q1.toNatClampNeg) = 1 then (X8_handOver n (sC σ 0 (am_u (σ 0) 40 (-1))) a1).bind (fun q13 => some q13) else (if (σ 6 q1.toNatClampNeg) = 2 then (X8_lay n (sC σ 0 (am_u (σ 0) 40 (-1))) a1 1).bind (fun q15 => if a1 < 0 ∨ 8 ≤ a1.toNatClampNeg then none else (if a1 < 0 ∨ 8 ≤ a1.toNatClampNeg then none else (X8_goOn n (sC q15 17 (upd (q15 17) a1.toNatClampNeg ((q15 17 a1.toNatClampNeg) + 1))) a1).bind (fun q18 => some q18))) else (if (σ 6 q1.toNatClampNeg) = 3 then (X8_asked n (sC σ 0 (am_u (σ 0) 40 (-1))) a1 0).bind (fun q20 => (X8_asked n q20.2 a1 1).bind (fun q21 => (X8_lying n q21.2 q20.1 a1 q21.1).bind (fun q22 => (X8_take n q21.2 a1 q20.1 q22).bind (fun q23 => some q23)))) else (if (σ 6 q1.toNatClampNeg) = 4 then (X8_asked n (sC σ 0 (am_u (σ 0) 40 (-1))) a1 1).bind (fun q25 => (X8_lying n q25.2 a2 a1 q25.1).bind (fun q26 => (X8_noteAny q25.2 a1 a2).bind (fun q27 => (X8_take n q27 a1 a2 q26).bind (fun q28 => some q28)))) else (if (σ 6 q1.toNatClampNeg) = 5 then (if a1 < 0 ∨ 8 ≤ a1.toNatClampNeg then none else (X8_upTo (sC σ 0 (am_u (σ 0) 40 (-1))) a1 (σ 19 a1.toNatClampNeg)).bind (fun q31 => if a1 < 0 ∨ 8 ≤ a1.toNatClampNeg then none else (if a1 < 0 ∨ 8 ≤ a1.toNatClampNeg then none else (X8_goOn n (sC q31 17 (upd (q31 17) a1.toNatClampNeg ((q31 17 a1.toNatClampNeg) + 1))) a1).bind (fun q34 => some q34)))) else (if q1 < 0 ∨ 80 ≤ q1.toNatClampNeg then none else (X8_together n (sC σ 0 (am_u (σ 0) 40 (-1))) (σ 6 q1.toNatClampNeg)).bind (fun q36 => some q36)))))))))
set_option maxRecDepth 100000 in
set_option maxHeartbeats 4000000 in
theorem c_X8_move (l : Launch) (n : Nat) (σ : am_M) (a1 : Int32) (a2 : Int32) (res : am_M) (h : X8_move n σ a1 a2 = some res) : am_Con l yX8_move cX8_move 6 none 9 [.ref 0, .int a1, .int a2] (wX8 σ) (fun (r : Option Value) (w : am_W) => r = none ∧ w = (wX8 res)) := by
  refine am_metn (n0 := 36) (own := RX8) (cd := am_cdT' tX8_move) (rf := am_rfL rfX8) (ini := false) rfl (by decide +kernel) rfl (by decide) dX8_move rfX8_ok (Nat.le_of_ble_eq_true rfl) ?_
  intro V hV
  have hP : (fun (r : Option Value) (w : am_W) => r = none ∧ w = (wX8 res)) none (wX8 res) := ⟨rfl, rfl⟩
  show V (wX8 σ) 0 [(0, .ref 0), (1, .int a1), (2, .int a2)] []
  unfold X8_move at h
  refine hV.run 3 [] (ws' := wX8 σ) (pc' := 3) (ls' := [(0, .ref 0), (1, .int a1), (2, .int a2)]) (st' := [.int 0, .int a1, .ref 0]) (ps := []) rfl trivial ?_
  obtain ⟨q1, hq1, h⟩ := am_bind h
  refine hV.cOi (as := [.int a1, .int 0]) (rest := []) (st := [.int 0, .int a1, .ref 0]) (ws2 := wX8 σ) (pc2 := 6) kX8_337 (c_X8_own l σ a1 0 q1 hq1) rfl rfl rfl rfl rfl rfl rfl rfl rfl ?_
  by_cases g2 : q1 < 0 ∨ 80 ≤ q1.toNatClampNeg
  · rw [if_pos g2] at h; cases h
  rw [if_neg g2] at h
  by_cases c3 : (σ 6 q1.toNatClampNeg) = 0
  · rw [if_pos c3] at h
    refine hV.run 14 [1] (ws' := wX8 (sC σ 0 (am_u (σ 0) 40 (-1)))) (pc' := 85) (ls' := [(3, .int q1), (0, .ref 0), (1, .int a1), (2, .int a2)]) (st' := [.int 0, .int a1, .ref 0, .int a1, .ref 0]) (ps := [vp_in q1 80, (σ 6 q1.toNatClampNeg).toInt = 0 + ((0 : Nat) : Int), 0 < 6, ¬ 5 < (σ 6 q1.toNatClampNeg).toInt]) rfl ⟨g2, (by rw [c3]; decide), (by decide), (by rw [c3]; decide), trivial⟩ ?_
    obtain ⟨q4, hq4, h⟩ := am_bind h
    refine hV.cOi (as := [.int a1, .int 0]) (rest := [.int a1, .ref 0]) (st := [.int 0, .int a1, .ref 0, .int a1, .ref 0]) (ws2 := wX8 q4.2) (pc2 := 88) kX8_347 (c_X8_asked l n (sC σ 0 (am_u (σ 0) 40 (-1))) a1 0 q4 hq4) rfl rfl rfl rfl rfl rfl rfl rfl rfl ?_
    obtain ⟨q5, hq5, h⟩ := am_bind h
    refine hV.cOi (as := [.int a1, .int q4.1]) (rest := []) (st := [.int q4.1, .int a1, .ref 0]) (ws2 := wX8 q4.2) (pc2 := 91) kX8_382 (c_X8_sent l n q4.2 a1 q4.1 q5 hq5) rfl rfl rfl rfl rfl rfl rfl rfl rfl ?_
    by_cases c6 : (q4.2 0 4) ≤ q5
    · rw [if_pos c6] at h
      refine hV.run 5 [1] (ws' := wX8 q4.2) (pc' := 124) (ls' := [(3, .int q1), (0, .ref 0), (1, .int a1), (2, .int a2)]) (st' := [.int a1, .ref 0]) (ps := [(q4.2 0 4) ≤ q5]) rfl ⟨c6, trivial⟩ ?_
      obtain ⟨q7, hq7, h⟩ := am_bind h
      refine hV.cOv (as := [.int a1]) (rest := []) (st := [.int a1, .ref 0]) (ws2 := wX8 q7) (pc2 := 127) kX8_425 (c_X8_handOver l n q4.2 a1 q7 hq7) rfl rfl rfl rfl rfl rfl rfl rfl rfl ?_
      refine hV.run 1 [] (ws' := wX8 q7) (pc' := 243) (ls' := [(3, .int q1), (0, .ref 0), (1, .int a1), (2, .int a2)]) (st' := []) (ps := []) rfl trivial ?_
      cases h
      exact hV.rv rfl rfl rfl hP
    · rw [if_neg c6] at h
      refine hV.run 6 [0] (ws' := wX8 q4.2) (pc' := 101) (ls' := [(3, .int q1), (0, .ref 0), (1, .int a1), (2, .int a2)]) (st' := [.int 0, .int a1, .ref 0]) (ps := [¬ (q4.2 0 4) ≤ q5]) rfl ⟨c6, trivial⟩ ?_
      obtain ⟨q8, hq8, h⟩ := am_bind h
      refine hV.cOv (as := [.int a1, .int 0]) (rest := []) (st := [.int 0, .int a1, .ref 0]) (ws2 := wX8 q8) (pc2 := 104) kX8_421 (c_X8_lay l n q4.2 a1 0 q8 hq8) rfl rfl rfl rfl rfl rfl rfl rfl rfl ?_
      by_cases g9 : a1 < 0 ∨ 8 ≤ a1.toNatClampNeg
      · rw [if_pos g9] at h; cases h
      rw [if_neg g9] at h
      by_cases g10 : a1 < 0 ∨ 8 ≤ a1.toNatClampNeg
      · rw [if_pos g10] at h; cases h
      rw [if_neg g10] at h
      refine hV.run 10 [] (ws' := wX8 (sC q8 17 (upd (q8 17) a1.toNatClampNeg ((q8 17 a1.toNatClampNeg) + 1)))) (pc' := 116) (ls' := [(3, .int q1), (0, .ref 0), (1, .int a1), (2, .int a2)]) (st' := [.int a1, .ref 0]) (ps := [vp_in a1 8, vp_in a1 8]) rfl ⟨g9, g10, trivial⟩ ?_
      obtain ⟨q11, hq11, h⟩ := am_bind h
      refine hV.cOv (as := [.int a1]) (rest := []) (st := [.int a1, .ref 0]) (ws2 := wX8 q11) (pc2 := 119) kX8_372 (c_X8_goOn l n (sC q8 17 (upd (q8 17) a1.toNatClampNeg ((q8 17 a1.toNatClampNeg) + 1))) a1 q11 hq11) rfl rfl rfl rfl rfl rfl rfl rfl rfl ?_
      refine hV.run 1 [] (ws' := wX8 q11) (pc' := 243) (ls' := [(3, .int q1), (0, .ref 0), (1, .int a1), (2, .int a2)]) (st' := []) (ps := []) rfl trivial ?_
      cases h
      exact hV.rv rfl rfl rfl hP
  · rw [if_neg c3] at h
    by_cases c12 : (σ 6 q1.toNatClampNeg) = 1
    · rw [if_pos c12] at h
      refine hV.run 11 [2] (ws' := wX8 (sC σ 0 (am_u (σ 0) 40 (-1)))) (pc' := 132) (ls' := [(3, .int q1), (0, .ref 0), (1, .int a1), (2, .int a2)]) (st' := [.int a1, .ref 0]) (ps := [vp_in q1 80, (σ 6 q1.toNatClampNeg).toInt = 0 + ((1 : Nat) : Int), 1 < 6, ¬ 5 < (σ 6 q1.toNatClampNeg).toInt]) rfl ⟨g2, (by rw [c12]; decide), (by decide), (by rw [c12]; decide), trivial⟩ ?_
      obtain ⟨q13, hq13, h⟩ := am_bind h
      refine hV.cOv (as := [.int a1]) (rest := []) (st := [.int a1, .ref 0]) (ws2 := wX8 q13) (pc2 := 135) kX8_425 (c_X8_handOver l n (sC σ 0 (am_u (σ 0) 40 (-1))) a1 q13 hq13) rfl rfl rfl rfl rfl rfl rfl rfl rfl ?_
      refine hV.run 1 [] (ws' := wX8 q13) (pc' := 243) (ls' := [(3, .int q1), (0, .ref 0), (1, .int a1), (2, .int a2)]) (st' := []) (ps := []) rfl trivial ?_
      cases h
      exact hV.rv rfl rfl rfl hP
    · rw [if_neg c12] at h
      by_cases c14 : (σ 6 q1.toNatClampNeg) = 2
      · rw [if_pos c14] at h
        refine hV.run 12 [3] (ws' := wX8 (sC σ 0 (am_u (σ 0) 40 (-1)))) (pc' := 59) (ls' := [(3, .int q1), (0, .ref 0), (1, .int a1), (2, .int a2)]) (st' := [.int 1, .int a1, .ref 0]) (ps := [vp_in q1 80, (σ 6 q1.toNatClampNeg).toInt = 0 + ((2 : Nat) : Int), 2 < 6, ¬ 5 < (σ 6 q1.toNatClampNeg).toInt]) rfl ⟨g2, (by rw [c14]; decide), (by decide), (by rw [c14]; decide), trivial⟩ ?_
        obtain ⟨q15, hq15, h⟩ := am_bind h
        refine hV.cOv (as := [.int a1, .int 1]) (rest := []) (st := [.int 1, .int a1, .ref 0]) (ws2 := wX8 q15) (pc2 := 62) kX8_421 (c_X8_lay l n (sC σ 0 (am_u (σ 0) 40 (-1))) a1 1 q15 hq15) rfl rfl rfl rfl rfl rfl rfl rfl rfl ?_
        by_cases g16 : a1 < 0 ∨ 8 ≤ a1.toNatClampNeg
        · rw [if_pos g16] at h; cases h
        rw [if_neg g16] at h
        by_cases g17 : a1 < 0 ∨ 8 ≤ a1.toNatClampNeg
        · rw [if_pos g17] at h; cases h
        rw [if_neg g17] at h
        refine hV.run 10 [] (ws' := wX8 (sC q15 17 (upd (q15 17) a1.toNatClampNeg ((q15 17 a1.toNatClampNeg) + 1)))) (pc' := 74) (ls' := [(3, .int q1), (0, .ref 0), (1, .int a1), (2, .int a2)]) (st' := [.int a1, .ref 0]) (ps := [vp_in a1 8, vp_in a1 8]) rfl ⟨g16, g17, trivial⟩ ?_
        obtain ⟨q18, hq18, h⟩ := am_bind h
        refine hV.cOv (as := [.int a1]) (rest := []) (st := [.int a1, .ref 0]) (ws2 := wX8 q18) (pc2 := 77) kX8_372 (c_X8_goOn l n (sC q15 17 (upd (q15 17) a1.toNatClampNeg ((q15 17 a1.toNatClampNeg) + 1))) a1 q18 hq18) rfl rfl rfl rfl rfl rfl rfl rfl rfl ?_
        refine hV.run 1 [] (ws' := wX8 q18) (pc' := 243) (ls' := [(3, .int q1), (0, .ref 0), (1, .int a1), (2, .int a2)]) (st' := []) (ps := []) rfl trivial ?_
        cases h
        exact hV.rv rfl rfl rfl hP
      · rw [if_neg c14] at h
        by_cases c19 : (σ 6 q1.toNatClampNeg) = 3
        · rw [if_pos c19] at h
          refine hV.run 12 [4] (ws' := wX8 (sC σ 0 (am_u (σ 0) 40 (-1)))) (pc' := 141) (ls' := [(3, .int q1), (0, .ref 0), (1, .int a1), (2, .int a2)]) (st' := [.int 0, .int a1, .ref 0]) (ps := [vp_in q1 80, (σ 6 q1.toNatClampNeg).toInt = 0 + ((3 : Nat) : Int), 3 < 6, ¬ 5 < (σ 6 q1.toNatClampNeg).toInt]) rfl ⟨g2, (by rw [c19]; decide), (by decide), (by rw [c19]; decide), trivial⟩ ?_
          obtain ⟨q20, hq20, h⟩ := am_bind h
          refine hV.cOi (as := [.int a1, .int 0]) (rest := []) (st := [.int 0, .int a1, .ref 0]) (ws2 := wX8 q20.2) (pc2 := 144) kX8_347 (c_X8_asked l n (sC σ 0 (am_u (σ 0) 40 (-1))) a1 0 q20 hq20) rfl rfl rfl rfl rfl rfl rfl rfl rfl ?_
          refine hV.run 7 [] (ws' := wX8 q20.2) (pc' := 153) (ls' := [(4, .int q20.1), (3, .int q1), (0, .ref 0), (1, .int a1), (2, .int a2)]) (st' := [.int 1, .int a1, .ref 0, .int a1, .int q20.1, .ref 0]) (ps := []) rfl trivial ?_
          obtain ⟨q21, hq21, h⟩ := am_bind h
          refine hV.cOi (as := [.int a1, .int 1]) (rest := [.int a1, .int q20.1, .ref 0]) (st := [.int 1, .int a1, .ref 0, .int a1, .int q20.1, .ref 0]) (ws2 := wX8 q21.2) (pc2 := 156) kX8_347 (c_X8_asked l n q20.2 a1 1 q21 hq21) rfl rfl rfl rfl rfl rfl rfl rfl rfl ?_
          obtain ⟨q22, hq22, h⟩ := am_bind h
          refine hV.cOi (as := [.int q20.1, .int a1, .int q21.1]) (rest := []) (st := [.int q21.1, .int a1, .int q20.1, .ref 0]) (ws2 := wX8 q21.2) (pc2 := 159) kX8_379 (c_X8_lying l n q21.2 q20.1 a1 q21.1 q22 hq22) rfl rfl rfl rfl rfl rfl rfl rfl rfl ?_
          refine hV.run 5 [] (ws' := wX8 q21.2) (pc' := 167) (ls' := [(5, .int q22), (4, .int q20.1), (3, .int q1), (0, .ref 0), (1, .int a1), (2, .int a2)]) (st' := [.int q22, .int q20.1, .int a1, .ref 0]) (ps := []) rfl trivial ?_
          obtain ⟨q23, hq23, h⟩ := am_bind h
          refine hV.cOv (as := [.int a1, .int q20.1, .int q22]) (rest := []) (st := [.int q22, .int q20.1, .int a1, .ref 0]) (ws2 := wX8 q23) (pc2 := 170) kX8_428 (c_X8_take l n q21.2 a1 q20.1 q22 q23 hq23) rfl rfl rfl rfl rfl rfl rfl rfl rfl ?_
          refine hV.run 1 [] (ws' := wX8 q23) (pc' := 243) (ls' := [(5, .int q22), (4, .int q20.1), (3, .int q1), (0, .ref 0), (1, .int a1), (2, .int a2)]) (st' := []) (ps := []) rfl trivial ?_
          cases h
          exact hV.rv rfl rfl rfl hP
        · rw [if_neg c19] at h
          by_cases c24 : (σ 6 q1.toNatClampNeg) = 4
          · rw [if_pos c24] at h
            refine hV.run 15 [5] (ws' := wX8 (sC σ 0 (am_u (σ 0) 40 (-1)))) (pc' := 179) (ls' := [(3, .int q1), (0, .ref 0), (1, .int a1), (2, .int a2)]) (st' := [.int 1, .int a1, .ref 0, .int a1, .int a2, .ref 0]) (ps := [vp_in q1 80, (σ 6 q1.toNatClampNeg).toInt = 0 + ((4 : Nat) : Int), 4 < 6, ¬ 5 < (σ 6 q1.toNatClampNeg).toInt]) rfl ⟨g2, (by rw [c24]; decide), (by decide), (by rw [c24]; decide), trivial⟩ ?_
            obtain ⟨q25, hq25, h⟩ := am_bind h
            refine hV.cOi (as := [.int a1, .int 1]) (rest := [.int a1, .int a2, .ref 0]) (st := [.int 1, .int a1, .ref 0, .int a1, .int a2, .ref 0]) (ws2 := wX8 q25.2) (pc2 := 182) kX8_347 (c_X8_asked l n (sC σ 0 (am_u (σ 0) 40 (-1))) a1 1 q25 hq25) rfl rfl rfl rfl rfl rfl rfl rfl rfl ?_
            obtain ⟨q26, hq26, h⟩ := am_bind h
            refine hV.cOi (as := [.int a2, .int a1, .int q25.1]) (rest := []) (st := [.int q25.1, .int a1, .int a2, .ref 0]) (ws2 := wX8 q25.2) (pc2 := 185) kX8_379 (c_X8_lying l n q25.2 a2 a1 q25.1 q26 hq26) rfl rfl rfl rfl rfl rfl rfl rfl rfl ?_
            refine hV.run 4 [] (ws' := wX8 q25.2) (pc' := 190) (ls' := [(4, .int q26), (3, .int q1), (0, .ref 0), (1, .int a1), (2, .int a2)]) (st' := [.int a2, .int a1, .ref 0]) (ps := []) rfl trivial ?_
            obtain ⟨q27, hq27, h⟩ := am_bind h
            refine hV.cOv (as := [.int a1, .int a2]) (rest := []) (st := [.int a2, .int a1, .ref 0]) (ws2 := wX8 q27) (pc2 := 193) kX8_409 (c_X8_noteAny l q25.2 a1 a2 q27 hq27) rfl rfl rfl rfl rfl rfl rfl rfl rfl ?_
            refine hV.run 4 [] (ws' := wX8 q27) (pc' := 198) (ls' := [(4, .int q26), (3, .int q1), (0, .ref 0), (1, .int a1), (2, .int a2)]) (st' := [.int q26, .int a2, .int a1, .ref 0]) (ps := []) rfl trivial ?_
            obtain ⟨q28, hq28, h⟩ := am_bind h
            refine hV.cOv (as := [.int a1, .int a2, .int q26]) (rest := []) (st := [.int q26, .int a2, .int a1, .ref 0]) (ws2 := wX8 q28) (pc2 := 201) kX8_428 (c_X8_take l n q27 a1 a2 q26 q28 hq28) rfl rfl rfl rfl rfl rfl rfl rfl rfl ?_
            refine hV.run 1 [] (ws' := wX8 q28) (pc' := 243) (ls' := [(4, .int q26), (3, .int q1), (0, .ref 0), (1, .int a1), (2, .int a2)]) (st' := []) (ps := []) rfl trivial ?_
            cases h
            exact hV.rv rfl rfl rfl hP
          · rw [if_neg c24] at h
            by_cases c29 : (σ 6 q1.toNatClampNeg) = 5
            · rw [if_pos c29] at h
              by_cases g30 : a1 < 0 ∨ 8 ≤ a1.toNatClampNeg
              · rw [if_pos g30] at h; cases h
              rw [if_neg g30] at h
              refine hV.run 15 [6] (ws' := wX8 (sC σ 0 (am_u (σ 0) 40 (-1)))) (pc' := 212) (ls' := [(3, .int q1), (0, .ref 0), (1, .int a1), (2, .int a2)]) (st' := [.int (σ 19 a1.toNatClampNeg), .int a1, .ref 0]) (ps := [vp_in q1 80, (σ 6 q1.toNatClampNeg).toInt = 0 + ((5 : Nat) : Int), 5 < 6, ¬ 5 < (σ 6 q1.toNatClampNeg).toInt, vp_in a1 8]) rfl ⟨g2, (by rw [c29]; decide), (by decide), (by rw [c29]; decide), g30, trivial⟩ ?_
              obtain ⟨q31, hq31, h⟩ := am_bind h
              refine hV.cOv (as := [.int a1, .int (σ 19 a1.toNatClampNeg)]) (rest := []) (st := [.int (σ 19 a1.toNatClampNeg), .int a1, .ref 0]) (ws2 := wX8 q31) (pc2 := 215) kX8_399 (c_X8_upTo l (sC σ 0 (am_u (σ 0) 40 (-1))) a1 (σ 19 a1.toNatClampNeg) q31 hq31) rfl rfl rfl rfl rfl rfl rfl rfl rfl ?_
              by_cases g32 : a1 < 0 ∨ 8 ≤ a1.toNatClampNeg
              · rw [if_pos g32] at h; cases h
              rw [if_neg g32] at h
              by_cases g33 : a1 < 0 ∨ 8 ≤ a1.toNatClampNeg
              · rw [if_pos g33] at h; cases h
              rw [if_neg g33] at h
              refine hV.run 10 [] (ws' := wX8 (sC q31 17 (upd (q31 17) a1.toNatClampNeg ((q31 17 a1.toNatClampNeg) + 1)))) (pc' := 227) (ls' := [(3, .int q1), (0, .ref 0), (1, .int a1), (2, .int a2)]) (st' := [.int a1, .ref 0]) (ps := [vp_in a1 8, vp_in a1 8]) rfl ⟨g32, g33, trivial⟩ ?_
              obtain ⟨q34, hq34, h⟩ := am_bind h
              refine hV.cOv (as := [.int a1]) (rest := []) (st := [.int a1, .ref 0]) (ws2 := wX8 q34) (pc2 := 230) kX8_372 (c_X8_goOn l n (sC q31 17 (upd (q31 17) a1.toNatClampNeg ((q31 17 a1.toNatClampNeg) + 1))) a1 q34 hq34) rfl rfl rfl rfl rfl rfl rfl rfl rfl ?_
              refine hV.run 1 [] (ws' := wX8 q34) (pc' := 243) (ls' := [(3, .int q1), (0, .ref 0), (1, .int a1), (2, .int a2)]) (st' := []) (ps := []) rfl trivial ?_
              cases h
              exact hV.rv rfl rfl rfl hP
            · rw [if_neg c29] at h
              by_cases g35 : q1 < 0 ∨ 80 ≤ q1.toNatClampNeg
              · rw [if_pos g35] at h; cases h
              rw [if_neg g35] at h
              refine hV.run 14 [0] (ws' := wX8 (sC σ 0 (am_u (σ 0) 40 (-1)))) (pc' := 240) (ls' := [(3, .int q1), (0, .ref 0), (1, .int a1), (2, .int a2)]) (st' := [.int (σ 6 q1.toNatClampNeg), .ref 0]) (ps := [vp_in q1 80, (σ 6 q1.toNatClampNeg).toInt < 0 ∨ 5 < (σ 6 q1.toNatClampNeg).toInt, vp_in q1 80]) rfl ⟨g2, (by have c3_ := am_ne c3 (by decide : (0 : Int32).toInt = 0); have c12_ := am_ne c12 (by decide : (1 : Int32).toInt = 1); have c14_ := am_ne c14 (by decide : (2 : Int32).toInt = 2); have c19_ := am_ne c19 (by decide : (3 : Int32).toInt = 3); have c24_ := am_ne c24 (by decide : (4 : Int32).toInt = 4); have c29_ := am_ne c29 (by decide : (5 : Int32).toInt = 5); omega), g35, trivial⟩ ?_
              obtain ⟨q36, hq36, h⟩ := am_bind h
              refine hV.cOv (as := [.int (σ 6 q1.toNatClampNeg)]) (rest := []) (st := [.int (σ 6 q1.toNatClampNeg), .ref 0]) (ws2 := wX8 q36) (pc2 := 243) kX8_431 (c_X8_together l n (sC σ 0 (am_u (σ 0) 40 (-1))) (σ 6 q1.toNatClampNeg) q36 hq36) rfl rfl rfl rfl rfl rfl rfl rfl rfl ?_
              cases h
              exact hV.rv rfl rfl rfl hP

