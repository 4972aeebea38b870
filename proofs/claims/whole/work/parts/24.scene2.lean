def X2_pass (n : Nat) (τ : Nat → Int64) (σ : am_M) (a1 : Int32) (a2 : Int32) : Option (Int32 × am_M) := if (X2_isLeftOut σ τ a2) = true then (some ((jat 40 (σ 13) a2), σ)) else (X2_ask n σ a1 a2 2).bind (fun q2 => if (X3_kindOf (am_sub q2.2 11) a2) = 8 then (X2_set q2.2 a1 (2 + (jat 40 (q2.2 15) a2)) q2.1).bind (fun q4 => some ((jat 40 (σ 13) a2), q4)) else (if (X3_kindOf (am_sub q2.2 11) a2) = 9 then (X2_set q2.2 a1 9 (((X2_get q2.2 a1 9) * 31) + q2.1)).bind (fun q6 => some ((jat 40 (σ 13) a2), q6)) else (if q2.1 = 0 then (some ((jat 40 (q2.2 14) a2), q2.2)) else (some ((jat 40 (σ 13) a2), q2.2)))))
set_option maxRecDepth 100000 in
set_option maxHeartbeats 4000000 in
theorem c_X2_pass (l : Launch) (n : Nat) (τ : Nat → Int64) (σ : am_M) (a1 : Int32) (a2 : Int32) (res : (Int32 × am_M)) (h : X2_pass n τ σ a1 a2 = some res) : am_Con l yX2_pass cX2_pass 5 (some .int) 3 [.ref 0, .int a1, .int a2] (wX2 11 σ τ) (fun (r : Option Value) (w : am_W) => r = (some (.int res.1)) ∧ w = (wX2 11 res.2 τ)) := by
  refine am_metn (n0 := 19) (own := RX2) (cd := am_cdT' tX2_pass) (rf := am_rfL rfX2) (ini := false) rfl (by decide +kernel) rfl (by decide) dX2_pass rfX2_ok (Nat.le_of_ble_eq_true rfl) ?_
  intro V hV
  have hP : (fun (r : Option Value) (w : am_W) => r = (some (.int res.1)) ∧ w = (wX2 11 res.2 τ)) (some (.int res.1)) (wX2 11 res.2 τ) := ⟨rfl, rfl⟩
  show V (wX2 11 σ τ) 0 [(0, .ref 0), (1, .int a1), (2, .int a2)] []
  unfold X2_pass at h
  refine hV.run 4 [] (ws' := wX2 11 σ τ) (pc' := 8) (ls' := [(0, .ref 0), (1, .int a1), (2, .int a2)]) (st' := [.int a2, .ref 13]) (ps := []) rfl trivial ?_
  refine hV.cSi (as := [.ref 0, .int a2]) (js := [13]) (rest := []) (st := [.int a2, .ref 13]) (ws2 := wX2 11 σ τ) (pc2 := 11) kX2_110 (c_at l 1 40 (by decide) (σ 13) a2) rfl rfl rfl rfl rfl rfl rfl rfl rfl rfl ?_
  refine hV.run 3 [] (ws' := wX2 11 σ τ) (pc' := 14) (ls' := [(3, .int (jat 40 (σ 13) a2)), (0, .ref 0), (1, .int a1), (2, .int a2)]) (st' := [.int a2, .ref 0]) (ps := []) rfl trivial ?_
  refine hV.cOi (as := [.int a2]) (rest := []) (st := [.int a2, .ref 0]) (ws2 := wX2 11 σ τ) (pc2 := 17) kX2_114 (c_X2_isLeftOut l σ τ a2) rfl rfl rfl rfl rfl rfl rfl rfl rfl ?_
  by_cases c1 : (X2_isLeftOut σ τ a2) = true
  · rw [if_pos c1] at h
    refine hV.run 2 [0] (ws' := wX2 11 σ τ) (pc' := 21) (ls' := [(3, .int (jat 40 (σ 13) a2)), (0, .ref 0), (1, .int a1), (2, .int a2)]) (st' := [.int (jat 40 (σ 13) a2)]) (ps := [¬ (b2i (X2_isLeftOut σ τ a2)) = 0]) rfl ⟨(b2i_t c1), trivial⟩ ?_
    cases h
    exact hV.ri rfl rfl rfl hP
  · rw [if_neg c1] at h
    refine hV.run 5 [1] (ws' := wX2 11 σ τ) (pc' := 26) (ls' := [(3, .int (jat 40 (σ 13) a2)), (0, .ref 0), (1, .int a1), (2, .int a2)]) (st' := [.int 2, .int a2, .int a1, .ref 0]) (ps := [(b2i (X2_isLeftOut σ τ a2)) = 0]) rfl ⟨(b2i_f c1), trivial⟩ ?_
    obtain ⟨q2, hq2, h⟩ := am_bind h
    refine hV.cOi (as := [.int a1, .int a2, .int 2]) (rest := []) (st := [.int 2, .int a2, .int a1, .ref 0]) (ws2 := wX2 11 q2.2 τ) (pc2 := 29) kX2_99 (c_X2_ask l n σ τ a1 a2 2 q2 hq2) rfl rfl rfl rfl rfl rfl rfl rfl rfl ?_
    refine hV.run 4 [] (ws' := wX2 11 q2.2 τ) (pc' := 36) (ls' := [(4, .int q2.1), (3, .int (jat 40 (σ 13) a2)), (0, .ref 0), (1, .int a1), (2, .int a2)]) (st' := [.int a2, .ref 11]) (ps := []) rfl trivial ?_
    refine hV.cBi 11 8 [] (as := [.int a2]) (rest := []) (st := [.int a2, .ref 11]) (ws2 := wX2 11 q2.2 τ) (pc2 := 39) kX2_89 (c_X3_kindOf l (am_sub q2.2 11) a2) rfl rfl rfl rfl rfl rfl rfl rfl rfl rfl rfl rfl rfl rfl ?_
    by_cases c3 : (X3_kindOf (am_sub q2.2 11) a2) = 8
    · rw [if_pos c3] at h
      refine hV.run 8 [1] (ws' := wX2 11 q2.2 τ) (pc' := 75) (ls' := [(4, .int q2.1), (3, .int (jat 40 (σ 13) a2)), (0, .ref 0), (1, .int a1), (2, .int a2)]) (st' := [.int a2, .ref 15, .int 2, .int a1, .ref 0]) (ps := [(39 : Int) + Op.lookupswitch.offset [(8, 25), (9, 47)] (69) (X3_kindOf (am_sub q2.2 11) a2).toInt = ((64 : Nat) : Int)]) rfl ⟨(by rw [c3]; decide), trivial⟩ ?_
      refine hV.cSi (as := [.ref 0, .int a2]) (js := [15]) (rest := [.int 2, .int a1, .ref 0]) (st := [.int a2, .ref 15, .int 2, .int a1, .ref 0]) (ws2 := wX2 11 q2.2 τ) (pc2 := 78) kX2_110 (c_at l 1 40 (by decide) (q2.2 15) a2) rfl rfl rfl rfl rfl rfl rfl rfl rfl rfl ?_
      refine hV.run 2 [] (ws' := wX2 11 q2.2 τ) (pc' := 81) (ls' := [(4, .int q2.1), (3, .int (jat 40 (σ 13) a2)), (0, .ref 0), (1, .int a1), (2, .int a2)]) (st' := [.int q2.1, .int (2 + (jat 40 (q2.2 15) a2)), .int a1, .ref 0]) (ps := []) rfl trivial ?_
      obtain ⟨q4, hq4, h⟩ := am_bind h
      refine hV.cOv (as := [.int a1, .int (2 + (jat 40 (q2.2 15) a2)), .int q2.1]) (rest := []) (st := [.int q2.1, .int (2 + (jat 40 (q2.2 15) a2)), .int a1, .ref 0]) (ws2 := wX2 11 q4 τ) (pc2 := 84) kX2_73 (c_X2_set l q2.2 τ a1 (2 + (jat 40 (q2.2 15) a2)) q2.1 q4 hq4) rfl rfl rfl rfl rfl rfl rfl rfl rfl ?_
      refine hV.run 1 [] (ws' := wX2 11 q4 τ) (pc' := 85) (ls' := [(4, .int q2.1), (3, .int (jat 40 (σ 13) a2)), (0, .ref 0), (1, .int a1), (2, .int a2)]) (st' := [.int (jat 40 (σ 13) a2)]) (ps := []) rfl trivial ?_
      cases h
      exact hV.ri rfl rfl rfl hP
    · rw [if_neg c3] at h
      by_cases c5 : (X3_kindOf (am_sub q2.2 11) a2) = 9
      · rw [if_pos c5] at h
        refine hV.run 7 [2] (ws' := wX2 11 q2.2 τ) (pc' := 94) (ls' := [(4, .int q2.1), (3, .int (jat 40 (σ 13) a2)), (0, .ref 0), (1, .int a1), (2, .int a2)]) (st' := [.int 9, .int a1, .ref 0, .int 9, .int a1, .ref 0]) (ps := [(39 : Int) + Op.lookupswitch.offset [(8, 25), (9, 47)] (69) (X3_kindOf (am_sub q2.2 11) a2).toInt = ((86 : Nat) : Int)]) rfl ⟨(by rw [c5]; decide), trivial⟩ ?_
        refine hV.cOi (as := [.int a1, .int 9]) (rest := [.int 9, .int a1, .ref 0]) (st := [.int 9, .int a1, .ref 0, .int 9, .int a1, .ref 0]) (ws2 := wX2 11 q2.2 τ) (pc2 := 97) kX2_81 (c_X2_get l q2.2 τ a1 9) rfl rfl rfl rfl rfl rfl rfl rfl rfl ?_
        refine hV.run 4 [] (ws' := wX2 11 q2.2 τ) (pc' := 103) (ls' := [(4, .int q2.1), (3, .int (jat 40 (σ 13) a2)), (0, .ref 0), (1, .int a1), (2, .int a2)]) (st' := [.int (((X2_get q2.2 a1 9) * 31) + q2.1), .int 9, .int a1, .ref 0]) (ps := []) rfl trivial ?_
        obtain ⟨q6, hq6, h⟩ := am_bind h
        refine hV.cOv (as := [.int a1, .int 9, .int (((X2_get q2.2 a1 9) * 31) + q2.1)]) (rest := []) (st := [.int (((X2_get q2.2 a1 9) * 31) + q2.1), .int 9, .int a1, .ref 0]) (ws2 := wX2 11 q6 τ) (pc2 := 106) kX2_73 (c_X2_set l q2.2 τ a1 9 (((X2_get q2.2 a1 9) * 31) + q2.1) q6 hq6) rfl rfl rfl rfl rfl rfl rfl rfl rfl ?_
        refine hV.run 1 [] (ws' := wX2 11 q6 τ) (pc' := 107) (ls' := [(4, .int q2.1), (3, .int (jat 40 (σ 13) a2)), (0, .ref 0), (1, .int a1), (2, .int a2)]) (st' := [.int (jat 40 (σ 13) a2)]) (ps := []) rfl trivial ?_
        cases h
        exact hV.ri rfl rfl rfl hP
      · rw [if_neg c5] at h
        by_cases c7 : q2.1 = 0
        · rw [if_pos c7] at h
          refine hV.run 7 [0, 1] (ws' := wX2 11 q2.2 τ) (pc' := 125) (ls' := [(4, .int q2.1), (3, .int (jat 40 (σ 13) a2)), (0, .ref 0), (1, .int a1), (2, .int a2)]) (st' := [.int a2, .ref 14]) (ps := [(39 : Int) + Op.lookupswitch.offset [(8, 25), (9, 47)] (69) (X3_kindOf (am_sub q2.2 11) a2).toInt = ((108 : Nat) : Int), q2.1 = 0]) rfl ⟨(by have c3_ := am_ne c3 (by decide : (8 : Int32).toInt = 8); have c5_ := am_ne c5 (by decide : (9 : Int32).toInt = 9); simp [Op.lookupswitch.offset, c3_, c5_, Ne.symm c3_, Ne.symm c5_]), c7, trivial⟩ ?_
          refine hV.cSi (as := [.ref 0, .int a2]) (js := [14]) (rest := []) (st := [.int a2, .ref 14]) (ws2 := wX2 11 q2.2 τ) (pc2 := 128) kX2_110 (c_at l 1 40 (by decide) (q2.2 14) a2) rfl rfl rfl rfl rfl rfl rfl rfl rfl rfl ?_
          cases h
          exact hV.ri rfl rfl rfl hP
        · rw [if_neg c7] at h
          refine hV.run 5 [0, 0] (ws' := wX2 11 q2.2 τ) (pc' := 128) (ls' := [(4, .int q2.1), (3, .int (jat 40 (σ 13) a2)), (0, .ref 0), (1, .int a1), (2, .int a2)]) (st' := [.int (jat 40 (σ 13) a2)]) (ps := [(39 : Int) + Op.lookupswitch.offset [(8, 25), (9, 47)] (69) (X3_kindOf (am_sub q2.2 11) a2).toInt = ((108 : Nat) : Int), ¬ q2.1 = 0]) rfl ⟨(by have c3_ := am_ne c3 (by decide : (8 : Int32).toInt = 8); have c5_ := am_ne c5 (by decide : (9 : Int32).toInt = 9); simp [Op.lookupswitch.offset, c3_, c5_, Ne.symm c3_, Ne.symm c5_]), c7, trivial⟩ ?_
          cases h
          exact hV.ri rfl rfl rfl hP

def X2_doing (σ : am_M) (a1 : Int32) : Int32 := if (X2_isHand σ a1) = true then (if (X2_get σ a1 1) = 1 then (-1) else (X3_kindOf (am_sub σ 11) (X2_get σ a1 0))) else (-1)
set_option maxRecDepth 100000 in
set_option maxHeartbeats 4000000 in
theorem c_X2_doing (l : Launch) (σ : am_M) (τ : Nat → Int64) (a1 : Int32) : am_Con l yX2_doing cX2_doing 2 (some .int) 3 [.ref 0, .int a1] (wX2 11 σ τ) (fun (r : Option Value) (w : am_W) => r = (some (.int (X2_doing σ a1))) ∧ w = (wX2 11 σ τ)) := by
  obtain ⟨res, h⟩ : ∃ res, (X2_doing σ a1) = res := ⟨_, rfl⟩
  rw [h]
  refine am_metn (n0 := 19) (own := RX2) (cd := am_cdT' tX2_doing) (rf := am_rfL rfX2) (ini := false) rfl (by decide +kernel) rfl (by decide) dX2_doing rfX2_ok (Nat.le_of_ble_eq_true rfl) ?_
  intro V hV
  have hP : (fun (r : Option Value) (w : am_W) => r = (some (.int res)) ∧ w = (wX2 11 σ τ)) (some (.int res)) (wX2 11 σ τ) := ⟨rfl, rfl⟩
  show V (wX2 11 σ τ) 0 [(0, .ref 0), (1, .int a1)] []
  unfold X2_doing at h
  refine hV.run 2 [] (ws' := wX2 11 σ τ) (pc' := 2) (ls' := [(0, .ref 0), (1, .int a1)]) (st' := [.int a1, .ref 0]) (ps := []) rfl trivial ?_
  refine hV.cOi (as := [.int a1]) (rest := []) (st := [.int a1, .ref 0]) (ws2 := wX2 11 σ τ) (pc2 := 5) kX2_85 (c_X2_isHand l σ τ a1) rfl rfl rfl rfl rfl rfl rfl rfl rfl ?_
  by_cases c1 : (X2_isHand σ a1) = true
  · rw [if_pos c1] at h
    refine hV.run 4 [0] (ws' := wX2 11 σ τ) (pc' := 11) (ls' := [(0, .ref 0), (1, .int a1)]) (st' := [.int 1, .int a1, .ref 0]) (ps := [¬ (b2i (X2_isHand σ a1)) = 0]) rfl ⟨(b2i_t c1), trivial⟩ ?_
    refine hV.cOi (as := [.int a1, .int 1]) (rest := []) (st := [.int 1, .int a1, .ref 0]) (ws2 := wX2 11 σ τ) (pc2 := 14) kX2_81 (c_X2_get l σ τ a1 1) rfl rfl rfl rfl rfl rfl rfl rfl rfl ?_
    by_cases c2 : (X2_get σ a1 1) = 1
    · rw [if_pos c2] at h
      refine hV.run 3 [0] (ws' := wX2 11 σ τ) (pc' := 19) (ls' := [(0, .ref 0), (1, .int a1)]) (st' := [.int (-1)]) (ps := [(X2_get σ a1 1) = 1]) rfl ⟨c2, trivial⟩ ?_
      subst h
      exact hV.ri rfl rfl rfl hP
    · rw [if_neg c2] at h
      refine hV.run 7 [1] (ws' := wX2 11 σ τ) (pc' := 27) (ls' := [(0, .ref 0), (1, .int a1)]) (st' := [.int 0, .int a1, .ref 0, .ref 11]) (ps := [¬ (X2_get σ a1 1) = 1]) rfl ⟨c2, trivial⟩ ?_
      refine hV.cOi (as := [.int a1, .int 0]) (rest := [.ref 11]) (st := [.int 0, .int a1, .ref 0, .ref 11]) (ws2 := wX2 11 σ τ) (pc2 := 30) kX2_81 (c_X2_get l σ τ a1 0) rfl rfl rfl rfl rfl rfl rfl rfl rfl ?_
      refine hV.cBi 11 8 [] (as := [.int (X2_get σ a1 0)]) (rest := []) (st := [.int (X2_get σ a1 0), .ref 11]) (ws2 := wX2 11 σ τ) (pc2 := 33) kX2_89 (c_X3_kindOf l (am_sub σ 11) (X2_get σ a1 0)) rfl rfl rfl rfl rfl rfl rfl rfl rfl rfl rfl rfl rfl rfl ?_
      subst h
      exact hV.ri rfl rfl rfl hP
  · rw [if_neg c1] at h
    refine hV.run 2 [1] (ws' := wX2 11 σ τ) (pc' := 19) (ls' := [(0, .ref 0), (1, .int a1)]) (st' := [.int (-1)]) (ps := [(b2i (X2_isHand σ a1)) = 0]) rfl ⟨(b2i_f c1), trivial⟩ ?_
    subst h
    exact hV.ri rfl rfl rfl hP

def X2_arrive_J150 (n : Nat) (τ : Nat → Int64) (σ : am_M) (l1 : Int32) : Option am_M := (X2_stop σ l1).bind (fun q1 => some q1)
set_option maxRecDepth 100000 in
set_option maxHeartbeats 4000000 in
theorem p_X2_arrive_J150 {l : Launch} {Post : Option Value → am_W → Prop} {V : am_VT} (hV : am_B l RX2 false 4 (am_cdT' tX2_arrive) (am_rfL rfX2) none Post 19 V) (n : Nat) (τ : Nat → Int64) (res : am_M) (hP : Post none (wX2 11 res τ)) (σ : am_M) (l1 : Int32) (h : X2_arrive_J150 n τ σ l1 = some res) : V (wX2 11 σ τ) 150 [(0, .ref 0), (1, .int l1)] [] := by
  unfold X2_arrive_J150 at h
  refine hV.run 2 [] (ws' := wX2 11 σ τ) (pc' := 152) (ls' := [(0, .ref 0), (1, .int l1)]) (st' := [.int l1, .ref 0]) (ps := []) rfl trivial ?_
  obtain ⟨q1, hq1, h⟩ := am_bind h
  refine hV.cOv (as := [.int l1]) (rest := []) (st := [.int l1, .ref 0]) (ws2 := wX2 11 q1 τ) (pc2 := 155) kX2_103 (c_X2_stop l σ τ l1 q1 hq1) rfl rfl rfl rfl rfl rfl rfl rfl rfl ?_
  cases h
  exact hV.rv rfl rfl rfl hP
def X2_arrive_J118 (n : Nat) (τ : Nat → Int64) (σ : am_M) (l1 : Int32) (s0 : Int32) : Option am_M := if s0 = 0 then (some σ) else (if (X2_isHand σ (X2_get σ l1 10)) = true then (if (X2_get σ l1 10) = l1 then (X2_arrive_J150 n τ σ l1) else (some σ)) else (X2_arrive_J150 n τ σ l1))
set_option maxRecDepth 100000 in
set_option maxHeartbeats 4000000 in
theorem p_X2_arrive_J118 {l : Launch} {Post : Option Value → am_W → Prop} {V : am_VT} (hV : am_B l RX2 false 4 (am_cdT' tX2_arrive) (am_rfL rfX2) none Post 19 V) (n : Nat) (τ : Nat → Int64) (res : am_M) (hP : Post none (wX2 11 res τ)) (σ : am_M) (l1 : Int32) (s0 : Int32) (h : X2_arrive_J118 n τ σ l1 s0 = some res) : V (wX2 11 σ τ) 118 [(0, .ref 0), (1, .int l1)] [.int s0] := by
  unfold X2_arrive_J118 at h
  by_cases c1 : s0 = 0
  · rw [if_pos c1] at h
    refine hV.run 3 [1] (ws' := wX2 11 σ τ) (pc' := 155) (ls' := [(5, .int s0), (0, .ref 0), (1, .int l1)]) (st' := []) (ps := [s0 = 0]) rfl ⟨c1, trivial⟩ ?_
    cases h
    exact hV.rv rfl rfl rfl hP
  · rw [if_neg c1] at h
    refine hV.run 7 [0] (ws' := wX2 11 σ τ) (pc' := 130) (ls' := [(5, .int s0), (0, .ref 0), (1, .int l1)]) (st' := [.int 10, .int l1, .ref 0, .ref 0]) (ps := [¬ s0 = 0]) rfl ⟨c1, trivial⟩ ?_
    refine hV.cOi (as := [.int l1, .int 10]) (rest := [.ref 0]) (st := [.int 10, .int l1, .ref 0, .ref 0]) (ws2 := wX2 11 σ τ) (pc2 := 133) kX2_81 (c_X2_get l σ τ l1 10) rfl rfl rfl rfl rfl rfl rfl rfl rfl ?_
    refine hV.cOi (as := [.int (X2_get σ l1 10)]) (rest := []) (st := [.int (X2_get σ l1 10), .ref 0]) (ws2 := wX2 11 σ τ) (pc2 := 136) kX2_85 (c_X2_isHand l σ τ (X2_get σ l1 10)) rfl rfl rfl rfl rfl rfl rfl rfl rfl ?_
    by_cases c2 : (X2_isHand σ (X2_get σ l1 10)) = true
    · rw [if_pos c2] at h
      refine hV.run 4 [0] (ws' := wX2 11 σ τ) (pc' := 143) (ls' := [(5, .int s0), (0, .ref 0), (1, .int l1)]) (st' := [.int 10, .int l1, .ref 0]) (ps := [¬ (b2i (X2_isHand σ (X2_get σ l1 10))) = 0]) rfl ⟨(b2i_t c2), trivial⟩ ?_
      refine hV.cOi (as := [.int l1, .int 10]) (rest := []) (st := [.int 10, .int l1, .ref 0]) (ws2 := wX2 11 σ τ) (pc2 := 146) kX2_81 (c_X2_get l σ τ l1 10) rfl rfl rfl rfl rfl rfl rfl rfl rfl ?_
      by_cases c3 : (X2_get σ l1 10) = l1
      · rw [if_pos c3] at h
        refine hV.run 2 [0] (ws' := wX2 11 σ τ) (pc' := 150) (ls' := [(5, .int s0), (0, .ref 0), (1, .int l1)]) (st' := []) (ps := [(X2_get σ l1 10) = l1]) rfl ⟨c3, trivial⟩ ?_
        refine hV.pick [1, 2] (ls' := [(0, .ref 0), (1, .int l1)]) rfl ?_
        exact p_X2_arrive_J150 hV n τ res hP σ l1 h
      · rw [if_neg c3] at h
        refine hV.run 2 [1] (ws' := wX2 11 σ τ) (pc' := 155) (ls' := [(5, .int s0), (0, .ref 0), (1, .int l1)]) (st' := []) (ps := [¬ (X2_get σ l1 10) = l1]) rfl ⟨c3, trivial⟩ ?_
        cases h
        exact hV.rv rfl rfl rfl hP
    · rw [if_neg c2] at h
      refine hV.run 1 [1] (ws' := wX2 11 σ τ) (pc' := 150) (ls' := [(5, .int s0), (0, .ref 0), (1, .int l1)]) (st' := []) (ps := [(b2i (X2_isHand σ (X2_get σ l1 10))) = 0]) rfl ⟨(b2i_f c2), trivial⟩ ?_
      refine hV.pick [1, 2] (ls' := [(0, .ref 0), (1, .int l1)]) rfl ?_
      exact p_X2_arrive_J150 hV n τ res hP σ l1 h
def X2_arrive_J117 (n : Nat) (τ : Nat → Int64) (σ : am_M) (l1 : Int32) : Option am_M := X2_arrive_J118 n τ σ l1 0
set_option maxRecDepth 100000 in
set_option maxHeartbeats 4000000 in
theorem p_X2_arrive_J117 {l : Launch} {Post : Option Value → am_W → Prop} {V : am_VT} (hV : am_B l RX2 false 4 (am_cdT' tX2_arrive) (am_rfL rfX2) none Post 19 V) (n : Nat) (τ : Nat → Int64) (res : am_M) (hP : Post none (wX2 11 res τ)) (σ : am_M) (l1 : Int32) (h : X2_arrive_J117 n τ σ l1 = some res) : V (wX2 11 σ τ) 117 [(0, .ref 0), (1, .int l1)] [] := by
  unfold X2_arrive_J117 at h
  refine hV.run 1 [] (ws' := wX2 11 σ τ) (pc' := 118) (ls' := [(0, .ref 0), (1, .int l1)]) (st' := [.int 0]) (ps := []) rfl trivial ?_
  exact p_X2_arrive_J118 hV n τ res hP σ l1 0 h
def X2_arrive_J57 (n : Nat) (τ : Nat → Int64) (σ : am_M) (l1 : Int32) (l3 : Int32) (l4 : Int32) (s0 : Int32) (s1 : Int32) (s2 : Int32) : Option am_M := (X2_set σ s2 s1 s0).bind (fun q1 => (X2_ask n q1 l1 l3 0).bind (fun q2 => (X2_set q2.2 l1 10 q2.1).bind (fun q3 => (X2_ask n q3 l1 l3 1).bind (fun q4 => (X2_set q4.2 l1 11 q4.1).bind (fun q5 => (X2_ask n q5 l1 l3 2).bind (fun q6 => (X2_set q6.2 l1 12 q6.1).bind (fun q7 => if l4 < 0 then (X2_arrive_J117 n τ q7 l1) else (if 3 < l4 then (X2_arrive_J117 n τ q7 l1) else (X2_arrive_J118 n τ q7 l1 1)))))))))
set_option maxRecDepth 100000 in
set_option maxHeartbeats 4000000 in
theorem p_X2_arrive_J57 {l : Launch} {Post : Option Value → am_W → Prop} {V : am_VT} (hV : am_B l RX2 false 4 (am_cdT' tX2_arrive) (am_rfL rfX2) none Post 19 V) (n : Nat) (τ : Nat → Int64) (res : am_M) (hP : Post none (wX2 11 res τ)) (σ : am_M) (l1 : Int32) (l3 : Int32) (l4 : Int32) (s0 : Int32) (s1 : Int32) (s2 : Int32) (h : X2_arrive_J57 n τ σ l1 l3 l4 s0 s1 s2 = some res) : V (wX2 11 σ τ) 57 [(0, .ref 0), (1, .int l1), (3, .int l3), (4, .int l4)] [.int s0, .int s1, .int s2, .ref 0] := by
  unfold X2_arrive_J57 at h
  obtain ⟨q1, hq1, h⟩ := am_bind h
  refine hV.cOv (as := [.int s2, .int s1, .int s0]) (rest := []) (st := [.int s0, .int s1, .int s2, .ref 0]) (ws2 := wX2 11 q1 τ) (pc2 := 60) kX2_73 (c_X2_set l σ τ s2 s1 s0 q1 hq1) rfl rfl rfl rfl rfl rfl rfl rfl rfl ?_
  refine hV.run 7 [] (ws' := wX2 11 q1 τ) (pc' := 68) (ls' := [(0, .ref 0), (1, .int l1), (3, .int l3), (4, .int l4)]) (st' := [.int 0, .int l3, .int l1, .ref 0, .int 10, .int l1, .ref 0]) (ps := []) rfl trivial ?_
  obtain ⟨q2, hq2, h⟩ := am_bind h
  refine hV.cOi (as := [.int l1, .int l3, .int 0]) (rest := [.int 10, .int l1, .ref 0]) (st := [.int 0, .int l3, .int l1, .ref 0, .int 10, .int l1, .ref 0]) (ws2 := wX2 11 q2.2 τ) (pc2 := 71) kX2_99 (c_X2_ask l n q1 τ l1 l3 0 q2 hq2) rfl rfl rfl rfl rfl rfl rfl rfl rfl ?_
  obtain ⟨q3, hq3, h⟩ := am_bind h
  refine hV.cOv (as := [.int l1, .int 10, .int q2.1]) (rest := []) (st := [.int q2.1, .int 10, .int l1, .ref 0]) (ws2 := wX2 11 q3 τ) (pc2 := 74) kX2_73 (c_X2_set l q2.2 τ l1 10 q2.1 q3 hq3) rfl rfl rfl rfl rfl rfl rfl rfl rfl ?_
  refine hV.run 7 [] (ws' := wX2 11 q3 τ) (pc' := 82) (ls' := [(0, .ref 0), (1, .int l1), (3, .int l3), (4, .int l4)]) (st' := [.int 1, .int l3, .int l1, .ref 0, .int 11, .int l1, .ref 0]) (ps := []) rfl trivial ?_
  obtain ⟨q4, hq4, h⟩ := am_bind h
  refine hV.cOi (as := [.int l1, .int l3, .int 1]) (rest := [.int 11, .int l1, .ref 0]) (st := [.int 1, .int l3, .int l1, .ref 0, .int 11, .int l1, .ref 0]) (ws2 := wX2 11 q4.2 τ) (pc2 := 85) kX2_99 (c_X2_ask l n q3 τ l1 l3 1 q4 hq4) rfl rfl rfl rfl rfl rfl rfl rfl rfl ?_
  obtain ⟨q5, hq5, h⟩ := am_bind h
  refine hV.cOv (as := [.int l1, .int 11, .int q4.1]) (rest := []) (st := [.int q4.1, .int 11, .int l1, .ref 0]) (ws2 := wX2 11 q5 τ) (pc2 := 88) kX2_73 (c_X2_set l q4.2 τ l1 11 q4.1 q5 hq5) rfl rfl rfl rfl rfl rfl rfl rfl rfl ?_
  refine hV.run 7 [] (ws' := wX2 11 q5 τ) (pc' := 96) (ls' := [(0, .ref 0), (1, .int l1), (3, .int l3), (4, .int l4)]) (st' := [.int 2, .int l3, .int l1, .ref 0, .int 12, .int l1, .ref 0]) (ps := []) rfl trivial ?_
  obtain ⟨q6, hq6, h⟩ := am_bind h
  refine hV.cOi (as := [.int l1, .int l3, .int 2]) (rest := [.int 12, .int l1, .ref 0]) (st := [.int 2, .int l3, .int l1, .ref 0, .int 12, .int l1, .ref 0]) (ws2 := wX2 11 q6.2 τ) (pc2 := 99) kX2_99 (c_X2_ask l n q5 τ l1 l3 2 q6 hq6) rfl rfl rfl rfl rfl rfl rfl rfl rfl ?_
  obtain ⟨q7, hq7, h⟩ := am_bind h
  refine hV.cOv (as := [.int l1, .int 12, .int q6.1]) (rest := []) (st := [.int q6.1, .int 12, .int l1, .ref 0]) (ws2 := wX2 11 q7 τ) (pc2 := 102) kX2_73 (c_X2_set l q6.2 τ l1 12 q6.1 q7 hq7) rfl rfl rfl rfl rfl rfl rfl rfl rfl ?_
  by_cases c8 : l4 < 0
  · rw [if_pos c8] at h
    refine hV.run 2 [1] (ws' := wX2 11 q7 τ) (pc' := 117) (ls' := [(0, .ref 0), (1, .int l1), (3, .int l3), (4, .int l4)]) (st' := []) (ps := [l4 < 0]) rfl ⟨c8, trivial⟩ ?_
    refine hV.pick [0, 1] (ls' := [(0, .ref 0), (1, .int l1)]) rfl ?_
    exact p_X2_arrive_J117 hV n τ res hP q7 l1 h
  · rw [if_neg c8] at h
    by_cases c9 : 3 < l4
    · rw [if_pos c9] at h
      refine hV.run 5 [0, 1] (ws' := wX2 11 q7 τ) (pc' := 117) (ls' := [(0, .ref 0), (1, .int l1), (3, .int l3), (4, .int l4)]) (st' := []) (ps := [¬ l4 < 0, 3 < l4]) rfl ⟨c8, c9, trivial⟩ ?_
      refine hV.pick [0, 1] (ls' := [(0, .ref 0), (1, .int l1)]) rfl ?_
      exact p_X2_arrive_J117 hV n τ res hP q7 l1 h
    · rw [if_neg c9] at h
      refine hV.run 7 [0, 0] (ws' := wX2 11 q7 τ) (pc' := 118) (ls' := [(0, .ref 0), (1, .int l1), (3, .int l3), (4, .int l4)]) (st' := [.int 1]) (ps := [¬ l4 < 0, ¬ 3 < l4]) rfl ⟨c8, c9, trivial⟩ ?_
      refine hV.pick [0, 1] (ls' := [(0, .ref 0), (1, .int l1)]) rfl ?_
      exact p_X2_arrive_J118 hV n τ res hP q7 l1 1 h
def X2_arrive_J33 (n : Nat) (τ : Nat → Int64) (σ : am_M) (l1 : Int32) (l3 : Int32) : Option am_M := if (X3_kindOf (am_sub σ 11) l3) = (-1) then (X2_arrive_J57 n τ σ l1 l3 (X3_kindOf (am_sub σ 11) l3) (-1) 0 l1) else (X2_arrive_J57 n τ σ l1 l3 (X3_kindOf (am_sub σ 11) l3) l3 0 l1)
set_option maxRecDepth 100000 in
set_option maxHeartbeats 4000000 in
theorem p_X2_arrive_J33 {l : Launch} {Post : Option Value → am_W → Prop} {V : am_VT} (hV : am_B l RX2 false 4 (am_cdT' tX2_arrive) (am_rfL rfX2) none Post 19 V) (n : Nat) (τ : Nat → Int64) (res : am_M) (hP : Post none (wX2 11 res τ)) (σ : am_M) (l1 : Int32) (l3 : Int32) (h : X2_arrive_J33 n τ σ l1 l3 = some res) : V (wX2 11 σ τ) 33 [(0, .ref 0), (1, .int l1), (3, .int l3)] [] := by
  unfold X2_arrive_J33 at h
  refine hV.run 3 [] (ws' := wX2 11 σ τ) (pc' := 38) (ls' := [(0, .ref 0), (1, .int l1), (3, .int l3)]) (st' := [.int l3, .ref 11]) (ps := []) rfl trivial ?_
  refine hV.cBi 11 8 [] (as := [.int l3]) (rest := []) (st := [.int l3, .ref 11]) (ws2 := wX2 11 σ τ) (pc2 := 41) kX2_89 (c_X3_kindOf l (am_sub σ 11) l3) rfl rfl rfl rfl rfl rfl rfl rfl rfl rfl rfl rfl rfl rfl ?_
  by_cases c1 : (X3_kindOf (am_sub σ 11) l3) = (-1)
  · rw [if_pos c1] at h
    refine hV.run 9 [0] (ws' := wX2 11 σ τ) (pc' := 57) (ls' := [(4, .int (X3_kindOf (am_sub σ 11) l3)), (0, .ref 0), (1, .int l1), (3, .int l3)]) (st' := [.int (-1), .int 0, .int l1, .ref 0]) (ps := [(X3_kindOf (am_sub σ 11) l3) = (-1)]) rfl ⟨c1, trivial⟩ ?_
    refine hV.pick [1, 2, 3, 0] (ls' := [(0, .ref 0), (1, .int l1), (3, .int l3), (4, .int (X3_kindOf (am_sub σ 11) l3))]) rfl ?_
    exact p_X2_arrive_J57 hV n τ res hP σ l1 l3 (X3_kindOf (am_sub σ 11) l3) (-1) 0 l1 h
  · rw [if_neg c1] at h
    refine hV.run 8 [1] (ws' := wX2 11 σ τ) (pc' := 57) (ls' := [(4, .int (X3_kindOf (am_sub σ 11) l3)), (0, .ref 0), (1, .int l1), (3, .int l3)]) (st' := [.int l3, .int 0, .int l1, .ref 0]) (ps := [¬ (X3_kindOf (am_sub σ 11) l3) = (-1)]) rfl ⟨c1, trivial⟩ ?_
    refine hV.pick [1, 2, 3, 0] (ls' := [(0, .ref 0), (1, .int l1), (3, .int l3), (4, .int (X3_kindOf (am_sub σ 11) l3))]) rfl ?_
    exact p_X2_arrive_J57 hV n τ res hP σ l1 l3 (X3_kindOf (am_sub σ 11) l3) l3 0 l1 h
def X2_arrive_B5 (n : Nat) (τ : Nat → Int64) (kont5 : am_M → Int32 → Int32 → Int32 → Option am_M) (σ : am_M) (l1 : Int32) (l3 : Int32) (l4 : Int32) : Option am_M := if 40 < l4 then (X2_arrive_J33 n τ σ l1 l3) else (if (X2_isQuiet σ τ l3) = true then (X2_pass n τ σ l1 l3).bind (fun q3 => kont5 q3.2 l1 q3.1 (l4 + 1)) else (X2_arrive_J33 n τ σ l1 l3))
def X2_arrive_L5 (n : Nat) (τ : Nat → Int64) : Nat → am_M → Int32 → Int32 → Int32 → Option am_M
 | 0 => fun _ _ _ _ => none
 | k + 1 => fun σ l1 l3 l4 => X2_arrive_B5 n τ (X2_arrive_L5 n τ k) σ l1 l3 l4
set_option maxRecDepth 100000 in
set_option maxHeartbeats 4000000 in
theorem p_X2_arrive_B5 {l : Launch} {Post : Option Value → am_W → Prop} {V : am_VT} (hV : am_B l RX2 false 4 (am_cdT' tX2_arrive) (am_rfL rfX2) none Post 19 V) (n : Nat) (τ : Nat → Int64) (res : am_M) (hP : Post none (wX2 11 res τ)) (kont5 : am_M → Int32 → Int32 → Int32 → Option am_M) (hk5 : ∀ (σ : am_M) (l1 : Int32) (l3 : Int32) (l4 : Int32), kont5 σ l1 l3 l4 = some res → V (wX2 11 σ τ) 5 [(0, .ref 0), (1, .int l1), (3, .int l3), (4, .int l4)] []) (σ : am_M) (l1 : Int32) (l3 : Int32) (l4 : Int32) (h : X2_arrive_B5 n τ kont5 σ l1 l3 l4 = some res) : V (wX2 11 σ τ) 5 [(0, .ref 0), (1, .int l1), (3, .int l3), (4, .int l4)] [] := by
  unfold X2_arrive_B5 at h
  by_cases c1 : 40 < l4
  · rw [if_pos c1] at h
    refine hV.run 3 [1] (ws' := wX2 11 σ τ) (pc' := 33) (ls' := [(0, .ref 0), (1, .int l1), (3, .int l3), (4, .int l4)]) (st' := []) (ps := [40 < l4]) rfl ⟨c1, trivial⟩ ?_
    refine hV.pick [0, 1, 2] (ls' := [(0, .ref 0), (1, .int l1), (3, .int l3)]) rfl ?_
    exact p_X2_arrive_J33 hV n τ res hP σ l1 l3 h
  · rw [if_neg c1] at h
    refine hV.run 5 [0] (ws' := wX2 11 σ τ) (pc' := 14) (ls' := [(0, .ref 0), (1, .int l1), (3, .int l3), (4, .int l4)]) (st' := [.int l3, .ref 0]) (ps := [¬ 40 < l4]) rfl ⟨c1, trivial⟩ ?_
    refine hV.cOi (as := [.int l3]) (rest := []) (st := [.int l3, .ref 0]) (ws2 := wX2 11 σ τ) (pc2 := 17) kX2_93 (c_X2_isQuiet l σ τ l3) rfl rfl rfl rfl rfl rfl rfl rfl rfl ?_
    by_cases c2 : (X2_isQuiet σ τ l3) = true
    · rw [if_pos c2] at h
      refine hV.run 4 [0] (ws' := wX2 11 σ τ) (pc' := 23) (ls' := [(0, .ref 0), (1, .int l1), (3, .int l3), (4, .int l4)]) (st' := [.int l3, .int l1, .ref 0]) (ps := [¬ (b2i (X2_isQuiet σ τ l3)) = 0]) rfl ⟨(b2i_t c2), trivial⟩ ?_
      obtain ⟨q3, hq3, h⟩ := am_bind h
      refine hV.cOi (as := [.int l1, .int l3]) (rest := []) (st := [.int l3, .int l1, .ref 0]) (ws2 := wX2 11 q3.2 τ) (pc2 := 26) kX2_96 (c_X2_pass l n τ σ l1 l3 q3 hq3) rfl rfl rfl rfl rfl rfl rfl rfl rfl ?_
      refine hV.run 3 [] (ws' := wX2 11 q3.2 τ) (pc' := 5) (ls' := [(4, .int (l4 + 1)), (3, .int q3.1), (0, .ref 0), (1, .int l1)]) (st' := []) (ps := []) rfl trivial ?_
      refine hV.pick [2, 3, 1, 0] (ls' := [(0, .ref 0), (1, .int l1), (3, .int q3.1), (4, .int (l4 + 1))]) rfl ?_
      exact hk5 q3.2 l1 q3.1 (l4 + 1) h
    · rw [if_neg c2] at h
      refine hV.run 1 [1] (ws' := wX2 11 σ τ) (pc' := 33) (ls' := [(0, .ref 0), (1, .int l1), (3, .int l3), (4, .int l4)]) (st' := []) (ps := [(b2i (X2_isQuiet σ τ l3)) = 0]) rfl ⟨(b2i_f c2), trivial⟩ ?_
      refine hV.pick [0, 1, 2] (ls' := [(0, .ref 0), (1, .int l1), (3, .int l3)]) rfl ?_
      exact p_X2_arrive_J33 hV n τ res hP σ l1 l3 h
theorem p_X2_arrive_L5 {l : Launch} {Post : Option Value → am_W → Prop} {V : am_VT} (hV : am_B l RX2 false 4 (am_cdT' tX2_arrive) (am_rfL rfX2) none Post 19 V) (n : Nat) (τ : Nat → Int64) (res : am_M) (hP : Post none (wX2 11 res τ)) : ∀ (k : Nat) (σ : am_M) (l1 : Int32) (l3 : Int32) (l4 : Int32) (h : X2_arrive_L5 n τ k σ l1 l3 l4 = some res), V (wX2 11 σ τ) 5 [(0, .ref 0), (1, .int l1), (3, .int l3), (4, .int l4)] [] := by
  intro k
  induction k with
  | zero => intro σ l1 l3 l4 h; cases h
  | succ k ih => intro σ l1 l3 l4 h; exact p_X2_arrive_B5 hV n τ res hP _ ih σ l1 l3 l4 h
def X2_arrive (n : Nat) (τ : Nat → Int64) (σ : am_M) (a1 : Int32) (a2 : Int32) : Option am_M := X2_arrive_L5 n τ n σ a1 a2 0
set_option maxRecDepth 100000 in
set_option maxHeartbeats 4000000 in
theorem c_X2_arrive (l : Launch) (n : Nat) (τ : Nat → Int64) (σ : am_M) (a1 : Int32) (a2 : Int32) (res : am_M) (h : X2_arrive n τ σ a1 a2 = some res) : am_Con l yX2_arrive cX2_arrive 6 none 4 [.ref 0, .int a1, .int a2] (wX2 11 σ τ) (fun (r : Option Value) (w : am_W) => r = none ∧ w = (wX2 11 res τ)) := by
  refine am_metn (n0 := 19) (own := RX2) (cd := am_cdT' tX2_arrive) (rf := am_rfL rfX2) (ini := false) rfl (by decide +kernel) rfl (by decide) dX2_arrive rfX2_ok (Nat.le_of_ble_eq_true rfl) ?_
  intro V hV
  have hP : (fun (r : Option Value) (w : am_W) => r = none ∧ w = (wX2 11 res τ)) none (wX2 11 res τ) := ⟨rfl, rfl⟩
  show V (wX2 11 σ τ) 0 [(0, .ref 0), (1, .int a1), (2, .int a2)] []
  unfold X2_arrive at h
  refine hV.run 4 [] (ws' := wX2 11 σ τ) (pc' := 5) (ls' := [(4, .int 0), (3, .int a2), (0, .ref 0), (1, .int a1), (2, .int a2)]) (st' := []) (ps := []) rfl trivial ?_
  refine hV.pick [2, 3, 1, 0] (ls' := [(0, .ref 0), (1, .int a1), (3, .int a2), (4, .int 0)]) rfl ?_
  exact p_X2_arrive_L5 hV n τ res hP n σ a1 a2 0 h

