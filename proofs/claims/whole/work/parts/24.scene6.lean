def X2_goTogether_J105 (n : Nat) (kont50 : am_M → Int32 → Int32 → Int32 → Int32 → Option am_M) (σ : am_M) (l1 : Int32) (l2 : Int32) (l3 : Int32) (l4 : Int32) : Option am_M := (X2_hasDone σ l4).bind (fun q1 => kont50 q1 l1 l2 l3 (l4 + 1))
set_option maxRecDepth 100000 in
set_option maxHeartbeats 4000000 in
theorem p_X2_goTogether_J105 {l : Launch} {Post : Option Value → am_W → Prop} {V : am_VT} (hV : am_B l RX2 false 4 (am_cdT' tX2_goTogether) (am_rfL rfX2) none Post 19 V) (n : Nat) (τ : Nat → Int64) (res : am_M) (hP : Post none (wX2 11 res τ)) (kont50 : am_M → Int32 → Int32 → Int32 → Int32 → Option am_M) (hk50 : ∀ (σ : am_M) (l1 : Int32) (l2 : Int32) (l3 : Int32) (l4 : Int32), kont50 σ l1 l2 l3 l4 = some res → V (wX2 11 σ τ) 50 [(0, .ref 0), (1, .int l1), (2, .int l2), (3, .int l3), (4, .int l4)] []) (σ : am_M) (l1 : Int32) (l2 : Int32) (l3 : Int32) (l4 : Int32) (h : X2_goTogether_J105 n kont50 σ l1 l2 l3 l4 = some res) : V (wX2 11 σ τ) 105 [(0, .ref 0), (1, .int l1), (2, .int l2), (3, .int l3), (4, .int l4)] [] := by
  unfold X2_goTogether_J105 at h
  refine hV.run 2 [] (ws' := wX2 11 σ τ) (pc' := 108) (ls' := [(0, .ref 0), (1, .int l1), (2, .int l2), (3, .int l3), (4, .int l4)]) (st' := [.int l4, .ref 0]) (ps := []) rfl trivial ?_
  obtain ⟨q1, hq1, h⟩ := am_bind h
  refine hV.cOv (as := [.int l4]) (rest := []) (st := [.int l4, .ref 0]) (ws2 := wX2 11 q1 τ) (pc2 := 111) kX2_178 (c_X2_hasDone l σ τ l4 q1 hq1) rfl rfl rfl rfl rfl rfl rfl rfl rfl ?_
  refine hV.run 2 [] (ws' := wX2 11 q1 τ) (pc' := 50) (ls' := [(4, .int (l4 + 1)), (0, .ref 0), (1, .int l1), (2, .int l2), (3, .int l3)]) (st' := []) (ps := []) rfl trivial ?_
  refine hV.pick [1, 2, 3, 4, 0] (ls' := [(0, .ref 0), (1, .int l1), (2, .int l2), (3, .int l3), (4, .int (l4 + 1))]) rfl ?_
  exact hk50 q1 l1 l2 l3 (l4 + 1) h
def X2_goTogether_B50 (n : Nat) (kont50 : am_M → Int32 → Int32 → Int32 → Int32 → Option am_M) (σ : am_M) (l1 : Int32) (l2 : Int32) (l3 : Int32) (l4 : Int32) : Option am_M := if (σ 0 1) ≤ l4 then (some σ) else (X2_raise σ l4 l2).bind (fun q2 => (X2_tick q2 l4 1).bind (fun q3 => if l1 = 7 then (X2_set q3 l4 (2 + (jat 40 (q3 15) (X2_get q3 l4 0))) l3).bind (fun q5 => X2_goTogether_J105 n kont50 q5 l1 l2 l3 l4) else (X2_goTogether_J105 n kont50 q3 l1 l2 l3 l4)))
def X2_goTogether_L50 (n : Nat) : Nat → am_M → Int32 → Int32 → Int32 → Int32 → Option am_M
 | 0 => fun _ _ _ _ _ => none
 | k + 1 => fun σ l1 l2 l3 l4 => X2_goTogether_B50 n (X2_goTogether_L50 n k) σ l1 l2 l3 l4
set_option maxRecDepth 100000 in
set_option maxHeartbeats 4000000 in
theorem p_X2_goTogether_B50 {l : Launch} {Post : Option Value → am_W → Prop} {V : am_VT} (hV : am_B l RX2 false 4 (am_cdT' tX2_goTogether) (am_rfL rfX2) none Post 19 V) (n : Nat) (τ : Nat → Int64) (res : am_M) (hP : Post none (wX2 11 res τ)) (kont50 : am_M → Int32 → Int32 → Int32 → Int32 → Option am_M) (hk50 : ∀ (σ : am_M) (l1 : Int32) (l2 : Int32) (l3 : Int32) (l4 : Int32), kont50 σ l1 l2 l3 l4 = some res → V (wX2 11 σ τ) 50 [(0, .ref 0), (1, .int l1), (2, .int l2), (3, .int l3), (4, .int l4)] []) (σ : am_M) (l1 : Int32) (l2 : Int32) (l3 : Int32) (l4 : Int32) (h : X2_goTogether_B50 n kont50 σ l1 l2 l3 l4 = some res) : V (wX2 11 σ τ) 50 [(0, .ref 0), (1, .int l1), (2, .int l2), (3, .int l3), (4, .int l4)] [] := by
  unfold X2_goTogether_B50 at h
  by_cases c1 : (σ 0 1) ≤ l4
  · rw [if_pos c1] at h
    refine hV.run 4 [1] (ws' := wX2 11 σ τ) (pc' := 117) (ls' := [(0, .ref 0), (1, .int l1), (2, .int l2), (3, .int l3), (4, .int l4)]) (st' := []) (ps := [(σ 0 1) ≤ l4]) rfl ⟨c1, trivial⟩ ?_
    cases h
    exact hV.rv rfl rfl rfl hP
  · rw [if_neg c1] at h
    refine hV.run 7 [0] (ws' := wX2 11 σ τ) (pc' := 63) (ls' := [(0, .ref 0), (1, .int l1), (2, .int l2), (3, .int l3), (4, .int l4)]) (st' := [.int l2, .int l4, .ref 0]) (ps := [¬ (σ 0 1) ≤ l4]) rfl ⟨c1, trivial⟩ ?_
    obtain ⟨q2, hq2, h⟩ := am_bind h
    refine hV.cOv (as := [.int l4, .int l2]) (rest := []) (st := [.int l2, .int l4, .ref 0]) (ws2 := wX2 11 q2 τ) (pc2 := 66) kX2_172 (c_X2_raise l σ τ l4 l2 q2 hq2) rfl rfl rfl rfl rfl rfl rfl rfl rfl ?_
    refine hV.run 3 [] (ws' := wX2 11 q2 τ) (pc' := 70) (ls' := [(0, .ref 0), (1, .int l1), (2, .int l2), (3, .int l3), (4, .int l4)]) (st' := [.int 1, .int l4, .ref 0]) (ps := []) rfl trivial ?_
    obtain ⟨q3, hq3, h⟩ := am_bind h
    refine hV.cOv (as := [.int l4, .int 1]) (rest := []) (st := [.int 1, .int l4, .ref 0]) (ws2 := wX2 11 q3 τ) (pc2 := 73) kX2_175 (c_X2_tick l q2 τ l4 1 q3 hq3) rfl rfl rfl rfl rfl rfl rfl rfl rfl ?_
    by_cases c4 : l1 = 7
    · rw [if_pos c4] at h
      refine hV.run 12 [0] (ws' := wX2 11 q3 τ) (pc' := 94) (ls' := [(0, .ref 0), (1, .int l1), (2, .int l2), (3, .int l3), (4, .int l4)]) (st' := [.int 0, .int l4, .ref 0, .ref 15, .int 2, .int l4, .ref 0]) (ps := [l1 = 7]) rfl ⟨c4, trivial⟩ ?_
      refine hV.cOi (as := [.int l4, .int 0]) (rest := [.ref 15, .int 2, .int l4, .ref 0]) (st := [.int 0, .int l4, .ref 0, .ref 15, .int 2, .int l4, .ref 0]) (ws2 := wX2 11 q3 τ) (pc2 := 97) kX2_81 (c_X2_get l q3 τ l4 0) rfl rfl rfl rfl rfl rfl rfl rfl rfl ?_
      refine hV.cSi (as := [.ref 0, .int (X2_get q3 l4 0)]) (js := [15]) (rest := [.int 2, .int l4, .ref 0]) (st := [.int (X2_get q3 l4 0), .ref 15, .int 2, .int l4, .ref 0]) (ws2 := wX2 11 q3 τ) (pc2 := 100) kX2_110 (c_at l 1 40 (by decide) (q3 15) (X2_get q3 l4 0)) rfl rfl rfl rfl rfl rfl rfl rfl rfl rfl ?_
      refine hV.run 2 [] (ws' := wX2 11 q3 τ) (pc' := 102) (ls' := [(0, .ref 0), (1, .int l1), (2, .int l2), (3, .int l3), (4, .int l4)]) (st' := [.int l3, .int (2 + (jat 40 (q3 15) (X2_get q3 l4 0))), .int l4, .ref 0]) (ps := []) rfl trivial ?_
      obtain ⟨q5, hq5, h⟩ := am_bind h
      refine hV.cOv (as := [.int l4, .int (2 + (jat 40 (q3 15) (X2_get q3 l4 0))), .int l3]) (rest := []) (st := [.int l3, .int (2 + (jat 40 (q3 15) (X2_get q3 l4 0))), .int l4, .ref 0]) (ws2 := wX2 11 q5 τ) (pc2 := 105) kX2_73 (c_X2_set l q3 τ l4 (2 + (jat 40 (q3 15) (X2_get q3 l4 0))) l3 q5 hq5) rfl rfl rfl rfl rfl rfl rfl rfl rfl ?_
      exact p_X2_goTogether_J105 hV n τ res hP kont50 hk50 q5 l1 l2 l3 l4 h
    · rw [if_neg c4] at h
      refine hV.run 3 [1] (ws' := wX2 11 q3 τ) (pc' := 105) (ls' := [(0, .ref 0), (1, .int l1), (2, .int l2), (3, .int l3), (4, .int l4)]) (st' := []) (ps := [¬ l1 = 7]) rfl ⟨c4, trivial⟩ ?_
      exact p_X2_goTogether_J105 hV n τ res hP kont50 hk50 q3 l1 l2 l3 l4 h
theorem p_X2_goTogether_L50 {l : Launch} {Post : Option Value → am_W → Prop} {V : am_VT} (hV : am_B l RX2 false 4 (am_cdT' tX2_goTogether) (am_rfL rfX2) none Post 19 V) (n : Nat) (τ : Nat → Int64) (res : am_M) (hP : Post none (wX2 11 res τ)) : ∀ (k : Nat) (σ : am_M) (l1 : Int32) (l2 : Int32) (l3 : Int32) (l4 : Int32) (h : X2_goTogether_L50 n k σ l1 l2 l3 l4 = some res), V (wX2 11 σ τ) 50 [(0, .ref 0), (1, .int l1), (2, .int l2), (3, .int l3), (4, .int l4)] [] := by
  intro k
  induction k with
  | zero => intro σ l1 l2 l3 l4 h; cases h
  | succ k ih => intro σ l1 l2 l3 l4 h; exact p_X2_goTogether_B50 hV n τ res hP _ ih σ l1 l2 l3 l4 h
def X2_goTogether_B7 (n : Nat) (kont7 : am_M → Int32 → Int32 → Int32 → Int32 → Option am_M) (σ : am_M) (l1 : Int32) (l2 : Int32) (l3 : Int32) (l4 : Int32) : Option am_M := if (σ 0 1) ≤ l4 then (X2_goTogether_L50 n n σ l1 l2 l3 0) else (kont7 σ l1 (J9_max_7cf53 l2 (jat 8 (σ 8) l4)) (l3 + (X2_get σ l4 12)) (l4 + 1))
def X2_goTogether_L7 (n : Nat) : Nat → am_M → Int32 → Int32 → Int32 → Int32 → Option am_M
 | 0 => fun _ _ _ _ _ => none
 | k + 1 => fun σ l1 l2 l3 l4 => X2_goTogether_B7 n (X2_goTogether_L7 n k) σ l1 l2 l3 l4
set_option maxRecDepth 100000 in
set_option maxHeartbeats 4000000 in
theorem p_X2_goTogether_B7 {l : Launch} {Post : Option Value → am_W → Prop} {V : am_VT} (hV : am_B l RX2 false 4 (am_cdT' tX2_goTogether) (am_rfL rfX2) none Post 19 V) (n : Nat) (τ : Nat → Int64) (res : am_M) (hP : Post none (wX2 11 res τ)) (kont7 : am_M → Int32 → Int32 → Int32 → Int32 → Option am_M) (hk7 : ∀ (σ : am_M) (l1 : Int32) (l2 : Int32) (l3 : Int32) (l4 : Int32), kont7 σ l1 l2 l3 l4 = some res → V (wX2 11 σ τ) 7 [(0, .ref 0), (1, .int l1), (2, .int l2), (3, .int l3), (4, .int l4)] []) (σ : am_M) (l1 : Int32) (l2 : Int32) (l3 : Int32) (l4 : Int32) (h : X2_goTogether_B7 n kont7 σ l1 l2 l3 l4 = some res) : V (wX2 11 σ τ) 7 [(0, .ref 0), (1, .int l1), (2, .int l2), (3, .int l3), (4, .int l4)] [] := by
  unfold X2_goTogether_B7 at h
  by_cases c1 : (σ 0 1) ≤ l4
  · rw [if_pos c1] at h
    refine hV.run 6 [1] (ws' := wX2 11 σ τ) (pc' := 50) (ls' := [(4, .int 0), (0, .ref 0), (1, .int l1), (2, .int l2), (3, .int l3)]) (st' := []) (ps := [(σ 0 1) ≤ l4]) rfl ⟨c1, trivial⟩ ?_
    refine hV.pick [1, 2, 3, 4, 0] (ls' := [(0, .ref 0), (1, .int l1), (2, .int l2), (3, .int l3), (4, .int 0)]) rfl ?_
    exact p_X2_goTogether_L50 hV n τ res hP n σ l1 l2 l3 0 h
  · rw [if_neg c1] at h
    refine hV.run 8 [0] (ws' := wX2 11 σ τ) (pc' := 23) (ls' := [(0, .ref 0), (1, .int l1), (2, .int l2), (3, .int l3), (4, .int l4)]) (st' := [.int l4, .ref 8, .int l2]) (ps := [¬ (σ 0 1) ≤ l4]) rfl ⟨c1, trivial⟩ ?_
    refine hV.cSi (as := [.ref 0, .int l4]) (js := [8]) (rest := [.int l2]) (st := [.int l4, .ref 8, .int l2]) (ws2 := wX2 11 σ τ) (pc2 := 26) kX2_110 (c_at l 1 8 (by decide) (σ 8) l4) rfl rfl rfl rfl rfl rfl rfl rfl rfl rfl ?_
    refine hV.cSi (as := [.int l2, .int (jat 8 (σ 8) l4)]) (js := []) (rest := []) (st := [.int (jat 8 (σ 8) l4), .int l2]) (ws2 := wX2 11 σ τ) (pc2 := 29) kX2_203 (c_J9_max_7cf53 l l2 (jat 8 (σ 8) l4)) rfl rfl rfl rfl rfl rfl rfl rfl rfl rfl ?_
    refine hV.run 5 [] (ws' := wX2 11 σ τ) (pc' := 36) (ls' := [(2, .int (J9_max_7cf53 l2 (jat 8 (σ 8) l4))), (0, .ref 0), (1, .int l1), (3, .int l3), (4, .int l4)]) (st' := [.int 12, .int l4, .ref 0, .int l3]) (ps := []) rfl trivial ?_
    refine hV.cOi (as := [.int l4, .int 12]) (rest := [.int l3]) (st := [.int 12, .int l4, .ref 0, .int l3]) (ws2 := wX2 11 σ τ) (pc2 := 39) kX2_81 (c_X2_get l σ τ l4 12) rfl rfl rfl rfl rfl rfl rfl rfl rfl ?_
    refine hV.run 4 [] (ws' := wX2 11 σ τ) (pc' := 7) (ls' := [(4, .int (l4 + 1)), (3, .int (l3 + (X2_get σ l4 12))), (2, .int (J9_max_7cf53 l2 (jat 8 (σ 8) l4))), (0, .ref 0), (1, .int l1)]) (st' := []) (ps := []) rfl trivial ?_
    refine hV.pick [3, 4, 2, 1, 0] (ls' := [(0, .ref 0), (1, .int l1), (2, .int (J9_max_7cf53 l2 (jat 8 (σ 8) l4))), (3, .int (l3 + (X2_get σ l4 12))), (4, .int (l4 + 1))]) rfl ?_
    exact hk7 σ l1 (J9_max_7cf53 l2 (jat 8 (σ 8) l4)) (l3 + (X2_get σ l4 12)) (l4 + 1) h
theorem p_X2_goTogether_L7 {l : Launch} {Post : Option Value → am_W → Prop} {V : am_VT} (hV : am_B l RX2 false 4 (am_cdT' tX2_goTogether) (am_rfL rfX2) none Post 19 V) (n : Nat) (τ : Nat → Int64) (res : am_M) (hP : Post none (wX2 11 res τ)) : ∀ (k : Nat) (σ : am_M) (l1 : Int32) (l2 : Int32) (l3 : Int32) (l4 : Int32) (h : X2_goTogether_L7 n k σ l1 l2 l3 l4 = some res), V (wX2 11 σ τ) 7 [(0, .ref 0), (1, .int l1), (2, .int l2), (3, .int l3), (4, .int l4)] [] := by
  intro k
  induction k with
  | zero => intro σ l1 l2 l3 l4 h; cases h
  | succ k ih => intro σ l1 l2 l3 l4 h; exact p_X2_goTogether_B7 hV n τ res hP _ ih σ l1 l2 l3 l4 h
def X2_goTogether (n : Nat) (σ : am_M) (a1 : Int32) : Option am_M := X2_goTogether_L7 n n σ a1 0 0 0
set_option maxRecDepth 100000 in
set_option maxHeartbeats 4000000 in
theorem c_X2_goTogether (l : Launch) (n : Nat) (σ : am_M) (τ : Nat → Int64) (a1 : Int32) (res : am_M) (h : X2_goTogether n σ a1 = some res) : am_Con l yX2_goTogether cX2_goTogether 5 none 4 [.ref 0, .int a1] (wX2 11 σ τ) (fun (r : Option Value) (w : am_W) => r = none ∧ w = (wX2 11 res τ)) := by
  refine am_metn (n0 := 19) (own := RX2) (cd := am_cdT' tX2_goTogether) (rf := am_rfL rfX2) (ini := false) rfl (by decide +kernel) rfl (by decide) dX2_goTogether rfX2_ok (Nat.le_of_ble_eq_true rfl) ?_
  intro V hV
  have hP : (fun (r : Option Value) (w : am_W) => r = none ∧ w = (wX2 11 res τ)) none (wX2 11 res τ) := ⟨rfl, rfl⟩
  show V (wX2 11 σ τ) 0 [(0, .ref 0), (1, .int a1)] []
  unfold X2_goTogether at h
  refine hV.run 6 [] (ws' := wX2 11 σ τ) (pc' := 7) (ls' := [(4, .int 0), (3, .int 0), (2, .int 0), (0, .ref 0), (1, .int a1)]) (st' := []) (ps := []) rfl trivial ?_
  refine hV.pick [3, 4, 2, 1, 0] (ls' := [(0, .ref 0), (1, .int a1), (2, .int 0), (3, .int 0), (4, .int 0)]) rfl ?_
  exact p_X2_goTogether_L7 hV n τ res hP n σ a1 0 0 0 h

def X2_move (n : Nat) (σ : am_M) (a1 : Int32) (a2 : Int32) : Option am_M := if (X2_doing (sC σ 0 (am_u (σ 0) 12 (-1))) a1) = 0 then (X2_hasRoom n (sC σ 0 (am_u (σ 0) 12 (-1))) a1).bind (fun q2 => if q2 = true then (X2_lay n (sC σ 0 (am_u (σ 0) 12 (-1))) a1 0).bind (fun q4 => some q4) else (X2_handOver (sC σ 0 (am_u (σ 0) 12 (-1))) a1).bind (fun q5 => some q5)) else (if (X2_doing (sC σ 0 (am_u (σ 0) 12 (-1))) a1) = 1 then (X2_handOver (sC σ 0 (am_u (σ 0) 12 (-1))) a1).bind (fun q7 => some q7) else (if (X2_doing (sC σ 0 (am_u (σ 0) 12 (-1))) a1) = 2 then (X2_lay n (sC σ 0 (am_u (σ 0) 12 (-1))) a1 1).bind (fun q9 => some q9) else (if (X2_doing (sC σ 0 (am_u (σ 0) 12 (-1))) a1) = 3 then (X2_take n (sC σ 0 (am_u (σ 0) 12 (-1))) a1 (X2_get (sC σ 0 (am_u (σ 0) 12 (-1))) a1 10)).bind (fun q11 => some q11) else (if (X2_doing (sC σ 0 (am_u (σ 0) 12 (-1))) a1) = 4 then (X2_take n (sC σ 0 (am_u (σ 0) 12 (-1))) a1 a2).bind (fun q13 => some q13) else (if (X2_doing (sC σ 0 (am_u (σ 0) 12 (-1))) a1) = 5 then (X2_raise (sC σ 0 (am_u (σ 0) 12 (-1))) a1 (jat 8 (σ 10) a1)).bind (fun q15 => (X2_tick q15 a1 1).bind (fun q16 => (X2_hasDone q16 a1).bind (fun q17 => some q17))) else (X2_goTogether n (sC σ 0 (am_u (σ 0) 12 (-1))) (X2_doing (sC σ 0 (am_u (σ 0) 12 (-1))) a1)).bind (fun q18 => some q18))))))
set_option maxRecDepth 100000 in
set_option maxHeartbeats 4000000 in
theorem c_X2_move (l : Launch) (n : Nat) (σ : am_M) (τ : Nat → Int64) (a1 : Int32) (a2 : Int32) (res : am_M) (h : X2_move n σ a1 a2 = some res) : am_Con l yX2_move cX2_move 4 none 5 [.ref 0, .int a1, .int a2] (wX2 11 σ τ) (fun (r : Option Value) (w : am_W) => r = none ∧ w = (wX2 11 res τ)) := by
  refine am_metn (n0 := 19) (own := RX2) (cd := am_cdT' tX2_move) (rf := am_rfL rfX2) (ini := false) rfl (by decide +kernel) rfl (by decide) dX2_move rfX2_ok (Nat.le_of_ble_eq_true rfl) ?_
  intro V hV
  have hP : (fun (r : Option Value) (w : am_W) => r = none ∧ w = (wX2 11 res τ)) none (wX2 11 res τ) := ⟨rfl, rfl⟩
  show V (wX2 11 σ τ) 0 [(0, .ref 0), (1, .int a1), (2, .int a2)] []
  unfold X2_move at h
  refine hV.run 5 [] (ws' := wX2 11 (sC σ 0 (am_u (σ 0) 12 (-1))) τ) (pc' := 7) (ls' := [(0, .ref 0), (1, .int a1), (2, .int a2)]) (st' := [.int a1, .ref 0]) (ps := []) rfl trivial ?_
  refine hV.cOi (as := [.int a1]) (rest := []) (st := [.int a1, .ref 0]) (ws2 := wX2 11 (sC σ 0 (am_u (σ 0) 12 (-1))) τ) (pc2 := 10) kX2_142 (c_X2_doing l (sC σ 0 (am_u (σ 0) 12 (-1))) τ a1) rfl rfl rfl rfl rfl rfl rfl rfl rfl ?_
  by_cases c1 : (X2_doing (sC σ 0 (am_u (σ 0) 12 (-1))) a1) = 0
  · rw [if_pos c1] at h
    refine hV.run 5 [1] (ws' := wX2 11 (sC σ 0 (am_u (σ 0) 12 (-1))) τ) (pc' := 54) (ls' := [(3, .int (X2_doing (sC σ 0 (am_u (σ 0) 12 (-1))) a1)), (0, .ref 0), (1, .int a1), (2, .int a2)]) (st' := [.int a1, .ref 0]) (ps := [(X2_doing (sC σ 0 (am_u (σ 0) 12 (-1))) a1).toInt = 0 + ((0 : Nat) : Int), 0 < 6, ¬ 5 < (X2_doing (sC σ 0 (am_u (σ 0) 12 (-1))) a1).toInt]) rfl ⟨(by rw [c1]; decide), (by decide), (by rw [c1]; decide), trivial⟩ ?_
    obtain ⟨q2, hq2, h⟩ := am_bind h
    refine hV.cOi (as := [.int a1]) (rest := []) (st := [.int a1, .ref 0]) (ws2 := wX2 11 (sC σ 0 (am_u (σ 0) 12 (-1))) τ) (pc2 := 57) kX2_145 (c_X2_hasRoom l n (sC σ 0 (am_u (σ 0) 12 (-1))) τ a1 q2 hq2) rfl rfl rfl rfl rfl rfl rfl rfl rfl ?_
    by_cases c3 : q2 = true
    · rw [if_pos c3] at h
      refine hV.run 4 [0] (ws' := wX2 11 (sC σ 0 (am_u (σ 0) 12 (-1))) τ) (pc' := 63) (ls' := [(3, .int (X2_doing (sC σ 0 (am_u (σ 0) 12 (-1))) a1)), (0, .ref 0), (1, .int a1), (2, .int a2)]) (st' := [.int 0, .int a1, .ref 0]) (ps := [¬ (b2i q2) = 0]) rfl ⟨(b2i_t c3), trivial⟩ ?_
      obtain ⟨q4, hq4, h⟩ := am_bind h
      refine hV.cOv (as := [.int a1, .int 0]) (rest := []) (st := [.int 0, .int a1, .ref 0]) (ws2 := wX2 11 q4 τ) (pc2 := 66) kX2_163 (c_X2_lay l n (sC σ 0 (am_u (σ 0) 12 (-1))) τ a1 0 q4 hq4) rfl rfl rfl rfl rfl rfl rfl rfl rfl ?_
      refine hV.run 1 [] (ws' := wX2 11 q4 τ) (pc' := 150) (ls' := [(3, .int (X2_doing (sC σ 0 (am_u (σ 0) 12 (-1))) a1)), (0, .ref 0), (1, .int a1), (2, .int a2)]) (st' := []) (ps := []) rfl trivial ?_
      cases h
      exact hV.rv rfl rfl rfl hP
    · rw [if_neg c3] at h
      refine hV.run 3 [1] (ws' := wX2 11 (sC σ 0 (am_u (σ 0) 12 (-1))) τ) (pc' := 71) (ls' := [(3, .int (X2_doing (sC σ 0 (am_u (σ 0) 12 (-1))) a1)), (0, .ref 0), (1, .int a1), (2, .int a2)]) (st' := [.int a1, .ref 0]) (ps := [(b2i q2) = 0]) rfl ⟨(b2i_f c3), trivial⟩ ?_
      obtain ⟨q5, hq5, h⟩ := am_bind h
      refine hV.cOv (as := [.int a1]) (rest := []) (st := [.int a1, .ref 0]) (ws2 := wX2 11 q5 τ) (pc2 := 74) kX2_166 (c_X2_handOver l (sC σ 0 (am_u (σ 0) 12 (-1))) τ a1 q5 hq5) rfl rfl rfl rfl rfl rfl rfl rfl rfl ?_
      refine hV.run 1 [] (ws' := wX2 11 q5 τ) (pc' := 150) (ls' := [(3, .int (X2_doing (sC σ 0 (am_u (σ 0) 12 (-1))) a1)), (0, .ref 0), (1, .int a1), (2, .int a2)]) (st' := []) (ps := []) rfl trivial ?_
      cases h
      exact hV.rv rfl rfl rfl hP
  · rw [if_neg c1] at h
    by_cases c6 : (X2_doing (sC σ 0 (am_u (σ 0) 12 (-1))) a1) = 1
    · rw [if_pos c6] at h
      refine hV.run 5 [2] (ws' := wX2 11 (sC σ 0 (am_u (σ 0) 12 (-1))) τ) (pc' := 79) (ls' := [(3, .int (X2_doing (sC σ 0 (am_u (σ 0) 12 (-1))) a1)), (0, .ref 0), (1, .int a1), (2, .int a2)]) (st' := [.int a1, .ref 0]) (ps := [(X2_doing (sC σ 0 (am_u (σ 0) 12 (-1))) a1).toInt = 0 + ((1 : Nat) : Int), 1 < 6, ¬ 5 < (X2_doing (sC σ 0 (am_u (σ 0) 12 (-1))) a1).toInt]) rfl ⟨(by rw [c6]; decide), (by decide), (by rw [c6]; decide), trivial⟩ ?_
      obtain ⟨q7, hq7, h⟩ := am_bind h
      refine hV.cOv (as := [.int a1]) (rest := []) (st := [.int a1, .ref 0]) (ws2 := wX2 11 q7 τ) (pc2 := 82) kX2_166 (c_X2_handOver l (sC σ 0 (am_u (σ 0) 12 (-1))) τ a1 q7 hq7) rfl rfl rfl rfl rfl rfl rfl rfl rfl ?_
      refine hV.run 1 [] (ws' := wX2 11 q7 τ) (pc' := 150) (ls' := [(3, .int (X2_doing (sC σ 0 (am_u (σ 0) 12 (-1))) a1)), (0, .ref 0), (1, .int a1), (2, .int a2)]) (st' := []) (ps := []) rfl trivial ?_
      cases h
      exact hV.rv rfl rfl rfl hP
    · rw [if_neg c6] at h
      by_cases c8 : (X2_doing (sC σ 0 (am_u (σ 0) 12 (-1))) a1) = 2
      · rw [if_pos c8] at h
        refine hV.run 6 [3] (ws' := wX2 11 (sC σ 0 (am_u (σ 0) 12 (-1))) τ) (pc' := 88) (ls' := [(3, .int (X2_doing (sC σ 0 (am_u (σ 0) 12 (-1))) a1)), (0, .ref 0), (1, .int a1), (2, .int a2)]) (st' := [.int 1, .int a1, .ref 0]) (ps := [(X2_doing (sC σ 0 (am_u (σ 0) 12 (-1))) a1).toInt = 0 + ((2 : Nat) : Int), 2 < 6, ¬ 5 < (X2_doing (sC σ 0 (am_u (σ 0) 12 (-1))) a1).toInt]) rfl ⟨(by rw [c8]; decide), (by decide), (by rw [c8]; decide), trivial⟩ ?_
        obtain ⟨q9, hq9, h⟩ := am_bind h
        refine hV.cOv (as := [.int a1, .int 1]) (rest := []) (st := [.int 1, .int a1, .ref 0]) (ws2 := wX2 11 q9 τ) (pc2 := 91) kX2_163 (c_X2_lay l n (sC σ 0 (am_u (σ 0) 12 (-1))) τ a1 1 q9 hq9) rfl rfl rfl rfl rfl rfl rfl rfl rfl ?_
        refine hV.run 1 [] (ws' := wX2 11 q9 τ) (pc' := 150) (ls' := [(3, .int (X2_doing (sC σ 0 (am_u (σ 0) 12 (-1))) a1)), (0, .ref 0), (1, .int a1), (2, .int a2)]) (st' := []) (ps := []) rfl trivial ?_
        cases h
        exact hV.rv rfl rfl rfl hP
      · rw [if_neg c8] at h
        by_cases c10 : (X2_doing (sC σ 0 (am_u (σ 0) 12 (-1))) a1) = 3
        · rw [if_pos c10] at h
          refine hV.run 8 [4] (ws' := wX2 11 (sC σ 0 (am_u (σ 0) 12 (-1))) τ) (pc' := 100) (ls' := [(3, .int (X2_doing (sC σ 0 (am_u (σ 0) 12 (-1))) a1)), (0, .ref 0), (1, .int a1), (2, .int a2)]) (st' := [.int 10, .int a1, .ref 0, .int a1, .ref 0]) (ps := [(X2_doing (sC σ 0 (am_u (σ 0) 12 (-1))) a1).toInt = 0 + ((3 : Nat) : Int), 3 < 6, ¬ 5 < (X2_doing (sC σ 0 (am_u (σ 0) 12 (-1))) a1).toInt]) rfl ⟨(by rw [c10]; decide), (by decide), (by rw [c10]; decide), trivial⟩ ?_
          refine hV.cOi (as := [.int a1, .int 10]) (rest := [.int a1, .ref 0]) (st := [.int 10, .int a1, .ref 0, .int a1, .ref 0]) (ws2 := wX2 11 (sC σ 0 (am_u (σ 0) 12 (-1))) τ) (pc2 := 103) kX2_81 (c_X2_get l (sC σ 0 (am_u (σ 0) 12 (-1))) τ a1 10) rfl rfl rfl rfl rfl rfl rfl rfl rfl ?_
          obtain ⟨q11, hq11, h⟩ := am_bind h
          refine hV.cOv (as := [.int a1, .int (X2_get (sC σ 0 (am_u (σ 0) 12 (-1))) a1 10)]) (rest := []) (st := [.int (X2_get (sC σ 0 (am_u (σ 0) 12 (-1))) a1 10), .int a1, .ref 0]) (ws2 := wX2 11 q11 τ) (pc2 := 106) kX2_169 (c_X2_take l n (sC σ 0 (am_u (σ 0) 12 (-1))) τ a1 (X2_get (sC σ 0 (am_u (σ 0) 12 (-1))) a1 10) q11 hq11) rfl rfl rfl rfl rfl rfl rfl rfl rfl ?_
          refine hV.run 1 [] (ws' := wX2 11 q11 τ) (pc' := 150) (ls' := [(3, .int (X2_doing (sC σ 0 (am_u (σ 0) 12 (-1))) a1)), (0, .ref 0), (1, .int a1), (2, .int a2)]) (st' := []) (ps := []) rfl trivial ?_
          cases h
          exact hV.rv rfl rfl rfl hP
        · rw [if_neg c10] at h
          by_cases c12 : (X2_doing (sC σ 0 (am_u (σ 0) 12 (-1))) a1) = 4
          · rw [if_pos c12] at h
            refine hV.run 6 [5] (ws' := wX2 11 (sC σ 0 (am_u (σ 0) 12 (-1))) τ) (pc' := 112) (ls' := [(3, .int (X2_doing (sC σ 0 (am_u (σ 0) 12 (-1))) a1)), (0, .ref 0), (1, .int a1), (2, .int a2)]) (st' := [.int a2, .int a1, .ref 0]) (ps := [(X2_doing (sC σ 0 (am_u (σ 0) 12 (-1))) a1).toInt = 0 + ((4 : Nat) : Int), 4 < 6, ¬ 5 < (X2_doing (sC σ 0 (am_u (σ 0) 12 (-1))) a1).toInt]) rfl ⟨(by rw [c12]; decide), (by decide), (by rw [c12]; decide), trivial⟩ ?_
            obtain ⟨q13, hq13, h⟩ := am_bind h
            refine hV.cOv (as := [.int a1, .int a2]) (rest := []) (st := [.int a2, .int a1, .ref 0]) (ws2 := wX2 11 q13 τ) (pc2 := 115) kX2_169 (c_X2_take l n (sC σ 0 (am_u (σ 0) 12 (-1))) τ a1 a2 q13 hq13) rfl rfl rfl rfl rfl rfl rfl rfl rfl ?_
            refine hV.run 1 [] (ws' := wX2 11 q13 τ) (pc' := 150) (ls' := [(3, .int (X2_doing (sC σ 0 (am_u (σ 0) 12 (-1))) a1)), (0, .ref 0), (1, .int a1), (2, .int a2)]) (st' := []) (ps := []) rfl trivial ?_
            cases h
            exact hV.rv rfl rfl rfl hP
          · rw [if_neg c12] at h
            by_cases c14 : (X2_doing (sC σ 0 (am_u (σ 0) 12 (-1))) a1) = 5
            · rw [if_pos c14] at h
              refine hV.run 8 [6] (ws' := wX2 11 (sC σ 0 (am_u (σ 0) 12 (-1))) τ) (pc' := 125) (ls' := [(3, .int (X2_doing (sC σ 0 (am_u (σ 0) 12 (-1))) a1)), (0, .ref 0), (1, .int a1), (2, .int a2)]) (st' := [.int a1, .ref 10, .int a1, .ref 0]) (ps := [(X2_doing (sC σ 0 (am_u (σ 0) 12 (-1))) a1).toInt = 0 + ((5 : Nat) : Int), 5 < 6, ¬ 5 < (X2_doing (sC σ 0 (am_u (σ 0) 12 (-1))) a1).toInt]) rfl ⟨(by rw [c14]; decide), (by decide), (by rw [c14]; decide), trivial⟩ ?_
              refine hV.cSi (as := [.ref 0, .int a1]) (js := [10]) (rest := [.int a1, .ref 0]) (st := [.int a1, .ref 10, .int a1, .ref 0]) (ws2 := wX2 11 (sC σ 0 (am_u (σ 0) 12 (-1))) τ) (pc2 := 128) kX2_110 (c_at l 1 8 (by decide) (σ 10) a1) rfl rfl rfl rfl rfl rfl rfl rfl rfl rfl ?_
              obtain ⟨q15, hq15, h⟩ := am_bind h
              refine hV.cOv (as := [.int a1, .int (jat 8 (σ 10) a1)]) (rest := []) (st := [.int (jat 8 (σ 10) a1), .int a1, .ref 0]) (ws2 := wX2 11 q15 τ) (pc2 := 131) kX2_172 (c_X2_raise l (sC σ 0 (am_u (σ 0) 12 (-1))) τ a1 (jat 8 (σ 10) a1) q15 hq15) rfl rfl rfl rfl rfl rfl rfl rfl rfl ?_
              refine hV.run 3 [] (ws' := wX2 11 q15 τ) (pc' := 134) (ls' := [(3, .int (X2_doing (sC σ 0 (am_u (σ 0) 12 (-1))) a1)), (0, .ref 0), (1, .int a1), (2, .int a2)]) (st' := [.int 1, .int a1, .ref 0]) (ps := []) rfl trivial ?_
              obtain ⟨q16, hq16, h⟩ := am_bind h
              refine hV.cOv (as := [.int a1, .int 1]) (rest := []) (st := [.int 1, .int a1, .ref 0]) (ws2 := wX2 11 q16 τ) (pc2 := 137) kX2_175 (c_X2_tick l q15 τ a1 1 q16 hq16) rfl rfl rfl rfl rfl rfl rfl rfl rfl ?_
              refine hV.run 2 [] (ws' := wX2 11 q16 τ) (pc' := 139) (ls' := [(3, .int (X2_doing (sC σ 0 (am_u (σ 0) 12 (-1))) a1)), (0, .ref 0), (1, .int a1), (2, .int a2)]) (st' := [.int a1, .ref 0]) (ps := []) rfl trivial ?_
              obtain ⟨q17, hq17, h⟩ := am_bind h
              refine hV.cOv (as := [.int a1]) (rest := []) (st := [.int a1, .ref 0]) (ws2 := wX2 11 q17 τ) (pc2 := 142) kX2_178 (c_X2_hasDone l q16 τ a1 q17 hq17) rfl rfl rfl rfl rfl rfl rfl rfl rfl ?_
              refine hV.run 1 [] (ws' := wX2 11 q17 τ) (pc' := 150) (ls' := [(3, .int (X2_doing (sC σ 0 (am_u (σ 0) 12 (-1))) a1)), (0, .ref 0), (1, .int a1), (2, .int a2)]) (st' := []) (ps := []) rfl trivial ?_
              cases h
              exact hV.rv rfl rfl rfl hP
            · rw [if_neg c14] at h
              refine hV.run 5 [0] (ws' := wX2 11 (sC σ 0 (am_u (σ 0) 12 (-1))) τ) (pc' := 147) (ls' := [(3, .int (X2_doing (sC σ 0 (am_u (σ 0) 12 (-1))) a1)), (0, .ref 0), (1, .int a1), (2, .int a2)]) (st' := [.int (X2_doing (sC σ 0 (am_u (σ 0) 12 (-1))) a1), .ref 0]) (ps := [(X2_doing (sC σ 0 (am_u (σ 0) 12 (-1))) a1).toInt < 0 ∨ 5 < (X2_doing (sC σ 0 (am_u (σ 0) 12 (-1))) a1).toInt]) rfl ⟨(by have c1_ := am_ne c1 (by decide : (0 : Int32).toInt = 0); have c6_ := am_ne c6 (by decide : (1 : Int32).toInt = 1); have c8_ := am_ne c8 (by decide : (2 : Int32).toInt = 2); have c10_ := am_ne c10 (by decide : (3 : Int32).toInt = 3); have c12_ := am_ne c12 (by decide : (4 : Int32).toInt = 4); have c14_ := am_ne c14 (by decide : (5 : Int32).toInt = 5); omega), trivial⟩ ?_
              obtain ⟨q18, hq18, h⟩ := am_bind h
              refine hV.cOv (as := [.int (X2_doing (sC σ 0 (am_u (σ 0) 12 (-1))) a1)]) (rest := []) (st := [.int (X2_doing (sC σ 0 (am_u (σ 0) 12 (-1))) a1), .ref 0]) (ws2 := wX2 11 q18 τ) (pc2 := 150) kX2_181 (c_X2_goTogether l n (sC σ 0 (am_u (σ 0) 12 (-1))) τ (X2_doing (sC σ 0 (am_u (σ 0) 12 (-1))) a1) q18 hq18) rfl rfl rfl rfl rfl rfl rfl rfl rfl ?_
              cases h
              exact hV.rv rfl rfl rfl hP

def X2_unended_J26 (n : Nat) (σ : am_M) (kont4 : Int32 → Int32 → Option Int32) (l1 : Int32) (l2 : Int32) : Option Int32 := kont4 l1 (l2 + 1)
set_option maxRecDepth 100000 in
set_option maxHeartbeats 4000000 in
theorem p_X2_unended_J26 {l : Launch} {Post : Option Value → am_W → Prop} {V : am_VT} (hV : am_B l RX2 false 3 (am_cdT' tX2_unended) (am_rfL rfX2) (some .int) Post 19 V) (n : Nat) (σ : am_M) (τ : Nat → Int64) (res : Int32) (hP : Post (some (.int res)) (wX2 11 σ τ)) (kont4 : Int32 → Int32 → Option Int32) (hk4 : ∀ (l1 : Int32) (l2 : Int32), kont4 l1 l2 = some res → V (wX2 11 σ τ) 4 [(0, .ref 0), (1, .int l1), (2, .int l2)] []) (l1 : Int32) (l2 : Int32) (h : X2_unended_J26 n σ kont4 l1 l2 = some res) : V (wX2 11 σ τ) 26 [(0, .ref 0), (1, .int l1), (2, .int l2)] [] := by
  unfold X2_unended_J26 at h
  refine hV.run 2 [] (ws' := wX2 11 σ τ) (pc' := 4) (ls' := [(2, .int (l2 + 1)), (0, .ref 0), (1, .int l1)]) (st' := []) (ps := []) rfl trivial ?_
  refine hV.pick [1, 2, 0] (ls' := [(0, .ref 0), (1, .int l1), (2, .int (l2 + 1))]) rfl ?_
  exact hk4 l1 (l2 + 1) h
def X2_unended_B4 (n : Nat) (σ : am_M) (kont4 : Int32 → Int32 → Option Int32) (l1 : Int32) (l2 : Int32) : Option Int32 := if (σ 0 1) ≤ l2 then (some l1) else (if (X2_hasEnded σ l2) = true then (X2_unended_J26 n σ kont4 l1 l2) else (X2_unended_J26 n σ kont4 (l1 ||| (1 <<< (l2 &&& 31))) l2))
def X2_unended_L4 (n : Nat) (σ : am_M) : Nat → Int32 → Int32 → Option Int32
 | 0 => fun _ _ => none
 | k + 1 => fun l1 l2 => X2_unended_B4 n σ (X2_unended_L4 n σ k) l1 l2
set_option maxRecDepth 100000 in
set_option maxHeartbeats 4000000 in
theorem p_X2_unended_B4 {l : Launch} {Post : Option Value → am_W → Prop} {V : am_VT} (hV : am_B l RX2 false 3 (am_cdT' tX2_unended) (am_rfL rfX2) (some .int) Post 19 V) (n : Nat) (σ : am_M) (τ : Nat → Int64) (res : Int32) (hP : Post (some (.int res)) (wX2 11 σ τ)) (kont4 : Int32 → Int32 → Option Int32) (hk4 : ∀ (l1 : Int32) (l2 : Int32), kont4 l1 l2 = some res → V (wX2 11 σ τ) 4 [(0, .ref 0), (1, .int l1), (2, .int l2)] []) (l1 : Int32) (l2 : Int32) (h : X2_unended_B4 n σ kont4 l1 l2 = some res) : V (wX2 11 σ τ) 4 [(0, .ref 0), (1, .int l1), (2, .int l2)] [] := by
  unfold X2_unended_B4 at h
  by_cases c1 : (σ 0 1) ≤ l2
  · rw [if_pos c1] at h
    refine hV.run 5 [1] (ws' := wX2 11 σ τ) (pc' := 33) (ls' := [(0, .ref 0), (1, .int l1), (2, .int l2)]) (st' := [.int l1]) (ps := [(σ 0 1) ≤ l2]) rfl ⟨c1, trivial⟩ ?_
    cases h
    exact hV.ri rfl rfl rfl hP
  · rw [if_neg c1] at h
    refine hV.run 6 [0] (ws' := wX2 11 σ τ) (pc' := 14) (ls' := [(0, .ref 0), (1, .int l1), (2, .int l2)]) (st' := [.int l2, .ref 0]) (ps := [¬ (σ 0 1) ≤ l2]) rfl ⟨c1, trivial⟩ ?_
    refine hV.cOi (as := [.int l2]) (rest := []) (st := [.int l2, .ref 0]) (ws2 := wX2 11 σ τ) (pc2 := 17) kX2_230 (c_X2_hasEnded l σ τ l2) rfl rfl rfl rfl rfl rfl rfl rfl rfl ?_
    by_cases c2 : (X2_hasEnded σ l2) = true
    · rw [if_pos c2] at h
      refine hV.run 1 [1] (ws' := wX2 11 σ τ) (pc' := 26) (ls' := [(0, .ref 0), (1, .int l1), (2, .int l2)]) (st' := []) (ps := [¬ (b2i (X2_hasEnded σ l2)) = 0]) rfl ⟨(b2i_t c2), trivial⟩ ?_
      exact p_X2_unended_J26 hV n σ τ res hP kont4 hk4 l1 l2 h
    · rw [if_neg c2] at h
      refine hV.run 7 [0] (ws' := wX2 11 σ τ) (pc' := 26) (ls' := [(1, .int (l1 ||| (1 <<< (l2 &&& 31)))), (0, .ref 0), (2, .int l2)]) (st' := []) (ps := [(b2i (X2_hasEnded σ l2)) = 0]) rfl ⟨(b2i_f c2), trivial⟩ ?_
      refine hV.pick [1, 0, 2] (ls' := [(0, .ref 0), (1, .int (l1 ||| (1 <<< (l2 &&& 31)))), (2, .int l2)]) rfl ?_
      exact p_X2_unended_J26 hV n σ τ res hP kont4 hk4 (l1 ||| (1 <<< (l2 &&& 31))) l2 h
theorem p_X2_unended_L4 {l : Launch} {Post : Option Value → am_W → Prop} {V : am_VT} (hV : am_B l RX2 false 3 (am_cdT' tX2_unended) (am_rfL rfX2) (some .int) Post 19 V) (n : Nat) (σ : am_M) (τ : Nat → Int64) (res : Int32) (hP : Post (some (.int res)) (wX2 11 σ τ)) : ∀ (k : Nat) (l1 : Int32) (l2 : Int32) (h : X2_unended_L4 n σ k l1 l2 = some res), V (wX2 11 σ τ) 4 [(0, .ref 0), (1, .int l1), (2, .int l2)] [] := by
  intro k
  induction k with
  | zero => intro l1 l2 h; cases h
  | succ k ih => intro l1 l2 h; exact p_X2_unended_B4 hV n σ τ res hP _ ih l1 l2 h
def X2_unended (n : Nat) (σ : am_M) : Option Int32 := X2_unended_L4 n σ n 0 0
set_option maxRecDepth 100000 in
set_option maxHeartbeats 4000000 in
theorem c_X2_unended (l : Launch) (n : Nat) (σ : am_M) (τ : Nat → Int64) (res : Int32) (h : X2_unended n σ = some res) : am_Con l yX2_unended cX2_unended 3 (some .int) 3 [.ref 0] (wX2 11 σ τ) (fun (r : Option Value) (w : am_W) => r = (some (.int res)) ∧ w = (wX2 11 σ τ)) := by
  refine am_metn (n0 := 19) (own := RX2) (cd := am_cdT' tX2_unended) (rf := am_rfL rfX2) (ini := false) rfl (by decide +kernel) rfl (by decide) dX2_unended rfX2_ok (Nat.le_of_ble_eq_true rfl) ?_
  intro V hV
  have hP : (fun (r : Option Value) (w : am_W) => r = (some (.int res)) ∧ w = (wX2 11 σ τ)) (some (.int res)) (wX2 11 σ τ) := ⟨rfl, rfl⟩
  show V (wX2 11 σ τ) 0 [(0, .ref 0)] []
  unfold X2_unended at h
  refine hV.run 4 [] (ws' := wX2 11 σ τ) (pc' := 4) (ls' := [(2, .int 0), (1, .int 0), (0, .ref 0)]) (st' := []) (ps := []) rfl trivial ?_
  refine hV.pick [2, 1, 0] (ls' := [(0, .ref 0), (1, .int 0), (2, .int 0)]) rfl ?_
  exact p_X2_unended_L4 hV n σ τ res hP n 0 0 h

def X2_outcome_B11 (n : Nat) (σ : am_M) (kont11 : Int32 → Option Int32) (l1 : Int32) : Option Int32 := if (σ 0 1) ≤ l1 then (some 2) else (if (X2_get σ l1 1) = 1 then (some 1) else (kont11 (l1 + 1)))
def X2_outcome_L11 (n : Nat) (σ : am_M) : Nat → Int32 → Option Int32
 | 0 => fun _ => none
 | k + 1 => fun l1 => X2_outcome_B11 n σ (X2_outcome_L11 n σ k) l1
set_option maxRecDepth 100000 in
set_option maxHeartbeats 4000000 in
theorem p_X2_outcome_B11 {l : Launch} {Post : Option Value → am_W → Prop} {V : am_VT} (hV : am_B l RX2 false 4 (am_cdT' tX2_outcome) (am_rfL rfX2) (some .int) Post 19 V) (n : Nat) (σ : am_M) (τ : Nat → Int64) (res : Int32) (hP : Post (some (.int res)) (wX2 11 σ τ)) (kont11 : Int32 → Option Int32) (hk11 : ∀ (l1 : Int32), kont11 l1 = some res → V (wX2 11 σ τ) 11 [(0, .ref 0), (1, .int l1)] []) (l1 : Int32) (h : X2_outcome_B11 n σ kont11 l1 = some res) : V (wX2 11 σ τ) 11 [(0, .ref 0), (1, .int l1)] [] := by
  unfold X2_outcome_B11 at h
  by_cases c1 : (σ 0 1) ≤ l1
  · rw [if_pos c1] at h
    refine hV.run 5 [1] (ws' := wX2 11 σ τ) (pc' := 38) (ls' := [(0, .ref 0), (1, .int l1)]) (st' := [.int 2]) (ps := [(σ 0 1) ≤ l1]) rfl ⟨c1, trivial⟩ ?_
    cases h
    exact hV.ri rfl rfl rfl hP
  · rw [if_neg c1] at h
    refine hV.run 7 [0] (ws' := wX2 11 σ τ) (pc' := 22) (ls' := [(0, .ref 0), (1, .int l1)]) (st' := [.int 1, .int l1, .ref 0]) (ps := [¬ (σ 0 1) ≤ l1]) rfl ⟨c1, trivial⟩ ?_
    refine hV.cOi (as := [.int l1, .int 1]) (rest := []) (st := [.int 1, .int l1, .ref 0]) (ws2 := wX2 11 σ τ) (pc2 := 25) kX2_81 (c_X2_get l σ τ l1 1) rfl rfl rfl rfl rfl rfl rfl rfl rfl ?_
    by_cases c2 : (X2_get σ l1 1) = 1
    · rw [if_pos c2] at h
      refine hV.run 3 [0] (ws' := wX2 11 σ τ) (pc' := 30) (ls' := [(0, .ref 0), (1, .int l1)]) (st' := [.int 1]) (ps := [(X2_get σ l1 1) = 1]) rfl ⟨c2, trivial⟩ ?_
      cases h
      exact hV.ri rfl rfl rfl hP
    · rw [if_neg c2] at h
      refine hV.run 4 [1] (ws' := wX2 11 σ τ) (pc' := 11) (ls' := [(1, .int (l1 + 1)), (0, .ref 0)]) (st' := []) (ps := [¬ (X2_get σ l1 1) = 1]) rfl ⟨c2, trivial⟩ ?_
      refine hV.pick [1, 0] (ls' := [(0, .ref 0), (1, .int (l1 + 1))]) rfl ?_
      exact hk11 (l1 + 1) h
theorem p_X2_outcome_L11 {l : Launch} {Post : Option Value → am_W → Prop} {V : am_VT} (hV : am_B l RX2 false 4 (am_cdT' tX2_outcome) (am_rfL rfX2) (some .int) Post 19 V) (n : Nat) (σ : am_M) (τ : Nat → Int64) (res : Int32) (hP : Post (some (.int res)) (wX2 11 σ τ)) : ∀ (k : Nat) (l1 : Int32) (h : X2_outcome_L11 n σ k l1 = some res), V (wX2 11 σ τ) 11 [(0, .ref 0), (1, .int l1)] [] := by
  intro k
  induction k with
  | zero => intro l1 h; cases h
  | succ k ih => intro l1 h; exact p_X2_outcome_B11 hV n σ τ res hP _ ih l1 h
def X2_outcome (n : Nat) (σ : am_M) : Option Int32 := (X2_unended n σ).bind (fun q1 => if q1 = 0 then (some 0) else (X2_outcome_L11 n σ n 0))
set_option maxRecDepth 100000 in
set_option maxHeartbeats 4000000 in
theorem c_X2_outcome (l : Launch) (n : Nat) (σ : am_M) (τ : Nat → Int64) (res : Int32) (h : X2_outcome n σ = some res) : am_Con l yX2_outcome cX2_outcome 2 (some .int) 4 [.ref 0] (wX2 11 σ τ) (fun (r : Option Value) (w : am_W) => r = (some (.int res)) ∧ w = (wX2 11 σ τ)) := by
  refine am_metn (n0 := 19) (own := RX2) (cd := am_cdT' tX2_outcome) (rf := am_rfL rfX2) (ini := false) rfl (by decide +kernel) rfl (by decide) dX2_outcome rfX2_ok (Nat.le_of_ble_eq_true rfl) ?_
  intro V hV
  have hP : (fun (r : Option Value) (w : am_W) => r = (some (.int res)) ∧ w = (wX2 11 σ τ)) (some (.int res)) (wX2 11 σ τ) := ⟨rfl, rfl⟩
  show V (wX2 11 σ τ) 0 [(0, .ref 0)] []
  unfold X2_outcome at h
  refine hV.run 1 [] (ws' := wX2 11 σ τ) (pc' := 1) (ls' := [(0, .ref 0)]) (st' := [.ref 0]) (ps := []) rfl trivial ?_
  obtain ⟨q1, hq1, h⟩ := am_bind h
  refine hV.cOi (as := []) (rest := []) (st := [.ref 0]) (ws2 := wX2 11 σ τ) (pc2 := 4) kX2_233 (c_X2_unended l n σ τ q1 hq1) rfl rfl rfl rfl rfl rfl rfl rfl rfl ?_
  by_cases c2 : q1 = 0
  · rw [if_pos c2] at h
    refine hV.run 2 [0] (ws' := wX2 11 σ τ) (pc' := 8) (ls' := [(0, .ref 0)]) (st' := [.int 0]) (ps := [q1 = 0]) rfl ⟨c2, trivial⟩ ?_
    cases h
    exact hV.ri rfl rfl rfl hP
  · rw [if_neg c2] at h
    refine hV.run 3 [1] (ws' := wX2 11 σ τ) (pc' := 11) (ls' := [(1, .int 0), (0, .ref 0)]) (st' := []) (ps := [¬ q1 = 0]) rfl ⟨c2, trivial⟩ ?_
    refine hV.pick [1, 0] (ls' := [(0, .ref 0), (1, .int 0)]) rfl ?_
    exact p_X2_outcome_L11 hV n σ τ res hP n 0 h

def X2_waitsFor (n : Nat) (σ : am_M) (a1 : Int32) : Option Int32 := if (X2_doing σ a1) = 0 then (some (1 <<< ((X2_get σ a1 10) &&& 31))) else (if (X2_doing σ a1) = 1 then (some (1 <<< ((X2_get σ a1 10) &&& 31))) else (if (X2_doing σ a1) = 2 then (some 0) else (if (X2_doing σ a1) = 3 then (some (1 <<< ((X2_get σ a1 10) &&& 31))) else (if (X2_doing σ a1) = 4 then (X2_unended n σ).bind (fun q6 => some (q6 &&& ((1 <<< (a1 &&& 31)) ^^^ (-1)))) else (if (X2_doing σ a1) = 5 then (X6_begunBy n (am_sub σ 2) a1).bind (fun q8 => some q8) else (if (X2_doing σ a1) = 6 then (X2_notDoing n σ (X2_doing σ a1)).bind (fun q10 => some q10) else (if (X2_doing σ a1) = 7 then (X2_notDoing n σ (X2_doing σ a1)).bind (fun q12 => some q12) else (some 0))))))))
set_option maxRecDepth 100000 in
set_option maxHeartbeats 4000000 in
theorem c_X2_waitsFor (l : Launch) (n : Nat) (σ : am_M) (τ : Nat → Int64) (a1 : Int32) (res : Int32) (h : X2_waitsFor n σ a1 = some res) : am_Con l yX2_waitsFor cX2_waitsFor 3 (some .int) 5 [.ref 0, .int a1] (wX2 11 σ τ) (fun (r : Option Value) (w : am_W) => r = (some (.int res)) ∧ w = (wX2 11 σ τ)) := by
  refine am_metn (n0 := 19) (own := RX2) (cd := am_cdT' tX2_waitsFor) (rf := am_rfL rfX2) (ini := false) rfl (by decide +kernel) rfl (by decide) dX2_waitsFor rfX2_ok (Nat.le_of_ble_eq_true rfl) ?_
  intro V hV
  have hP : (fun (r : Option Value) (w : am_W) => r = (some (.int res)) ∧ w = (wX2 11 σ τ)) (some (.int res)) (wX2 11 σ τ) := ⟨rfl, rfl⟩
  show V (wX2 11 σ τ) 0 [(0, .ref 0), (1, .int a1)] []
  unfold X2_waitsFor at h
  refine hV.run 2 [] (ws' := wX2 11 σ τ) (pc' := 2) (ls' := [(0, .ref 0), (1, .int a1)]) (st' := [.int a1, .ref 0]) (ps := []) rfl trivial ?_
  refine hV.cOi (as := [.int a1]) (rest := []) (st := [.int a1, .ref 0]) (ws2 := wX2 11 σ τ) (pc2 := 5) kX2_142 (c_X2_doing l σ τ a1) rfl rfl rfl rfl rfl rfl rfl rfl rfl ?_
  by_cases c1 : (X2_doing σ a1) = 0
  · rw [if_pos c1] at h
    refine hV.run 7 [1] (ws' := wX2 11 σ τ) (pc' := 57) (ls' := [(2, .int (X2_doing σ a1)), (0, .ref 0), (1, .int a1)]) (st' := [.int 10, .int a1, .ref 0, .int 1]) (ps := [(X2_doing σ a1).toInt = 0 + ((0 : Nat) : Int), 0 < 8, ¬ 7 < (X2_doing σ a1).toInt]) rfl ⟨(by rw [c1]; decide), (by decide), (by rw [c1]; decide), trivial⟩ ?_
    refine hV.cOi (as := [.int a1, .int 10]) (rest := [.int 1]) (st := [.int 10, .int a1, .ref 0, .int 1]) (ws2 := wX2 11 σ τ) (pc2 := 60) kX2_81 (c_X2_get l σ τ a1 10) rfl rfl rfl rfl rfl rfl rfl rfl rfl ?_
    refine hV.run 1 [] (ws' := wX2 11 σ τ) (pc' := 61) (ls' := [(2, .int (X2_doing σ a1)), (0, .ref 0), (1, .int a1)]) (st' := [.int (1 <<< ((X2_get σ a1 10) &&& 31))]) (ps := []) rfl trivial ?_
    cases h
    exact hV.ri rfl rfl rfl hP
  · rw [if_neg c1] at h
    by_cases c2 : (X2_doing σ a1) = 1
    · rw [if_pos c2] at h
      refine hV.run 7 [2] (ws' := wX2 11 σ τ) (pc' := 57) (ls' := [(2, .int (X2_doing σ a1)), (0, .ref 0), (1, .int a1)]) (st' := [.int 10, .int a1, .ref 0, .int 1]) (ps := [(X2_doing σ a1).toInt = 0 + ((1 : Nat) : Int), 1 < 8, ¬ 7 < (X2_doing σ a1).toInt]) rfl ⟨(by rw [c2]; decide), (by decide), (by rw [c2]; decide), trivial⟩ ?_
      refine hV.cOi (as := [.int a1, .int 10]) (rest := [.int 1]) (st := [.int 10, .int a1, .ref 0, .int 1]) (ws2 := wX2 11 σ τ) (pc2 := 60) kX2_81 (c_X2_get l σ τ a1 10) rfl rfl rfl rfl rfl rfl rfl rfl rfl ?_
      refine hV.run 1 [] (ws' := wX2 11 σ τ) (pc' := 61) (ls' := [(2, .int (X2_doing σ a1)), (0, .ref 0), (1, .int a1)]) (st' := [.int (1 <<< ((X2_get σ a1 10) &&& 31))]) (ps := []) rfl trivial ?_
      cases h
      exact hV.ri rfl rfl rfl hP
    · rw [if_neg c2] at h
      by_cases c3 : (X2_doing σ a1) = 2
      · rw [if_pos c3] at h
        refine hV.run 4 [3] (ws' := wX2 11 σ τ) (pc' := 89) (ls' := [(2, .int (X2_doing σ a1)), (0, .ref 0), (1, .int a1)]) (st' := [.int 0]) (ps := [(X2_doing σ a1).toInt = 0 + ((2 : Nat) : Int), 2 < 8, ¬ 7 < (X2_doing σ a1).toInt]) rfl ⟨(by rw [c3]; decide), (by decide), (by rw [c3]; decide), trivial⟩ ?_
        cases h
        exact hV.ri rfl rfl rfl hP
      · rw [if_neg c3] at h
        by_cases c4 : (X2_doing σ a1) = 3
        · rw [if_pos c4] at h
          refine hV.run 7 [4] (ws' := wX2 11 σ τ) (pc' := 57) (ls' := [(2, .int (X2_doing σ a1)), (0, .ref 0), (1, .int a1)]) (st' := [.int 10, .int a1, .ref 0, .int 1]) (ps := [(X2_doing σ a1).toInt = 0 + ((3 : Nat) : Int), 3 < 8, ¬ 7 < (X2_doing σ a1).toInt]) rfl ⟨(by rw [c4]; decide), (by decide), (by rw [c4]; decide), trivial⟩ ?_
          refine hV.cOi (as := [.int a1, .int 10]) (rest := [.int 1]) (st := [.int 10, .int a1, .ref 0, .int 1]) (ws2 := wX2 11 σ τ) (pc2 := 60) kX2_81 (c_X2_get l σ τ a1 10) rfl rfl rfl rfl rfl rfl rfl rfl rfl ?_
          refine hV.run 1 [] (ws' := wX2 11 σ τ) (pc' := 61) (ls' := [(2, .int (X2_doing σ a1)), (0, .ref 0), (1, .int a1)]) (st' := [.int (1 <<< ((X2_get σ a1 10) &&& 31))]) (ps := []) rfl trivial ?_
          cases h
          exact hV.ri rfl rfl rfl hP
        · rw [if_neg c4] at h
          by_cases c5 : (X2_doing σ a1) = 4
          · rw [if_pos c5] at h
            refine hV.run 4 [5] (ws' := wX2 11 σ τ) (pc' := 63) (ls' := [(2, .int (X2_doing σ a1)), (0, .ref 0), (1, .int a1)]) (st' := [.ref 0]) (ps := [(X2_doing σ a1).toInt = 0 + ((4 : Nat) : Int), 4 < 8, ¬ 7 < (X2_doing σ a1).toInt]) rfl ⟨(by rw [c5]; decide), (by decide), (by rw [c5]; decide), trivial⟩ ?_
            obtain ⟨q6, hq6, h⟩ := am_bind h
            refine hV.cOi (as := []) (rest := []) (st := [.ref 0]) (ws2 := wX2 11 σ τ) (pc2 := 66) kX2_233 (c_X2_unended l n σ τ q6 hq6) rfl rfl rfl rfl rfl rfl rfl rfl rfl ?_
            refine hV.run 6 [] (ws' := wX2 11 σ τ) (pc' := 72) (ls' := [(2, .int (X2_doing σ a1)), (0, .ref 0), (1, .int a1)]) (st' := [.int (q6 &&& ((1 <<< (a1 &&& 31)) ^^^ (-1)))]) (ps := []) rfl trivial ?_
            cases h
            exact hV.ri rfl rfl rfl hP
          · rw [if_neg c5] at h
            by_cases c7 : (X2_doing σ a1) = 5
            · rw [if_pos c7] at h
              refine hV.run 6 [6] (ws' := wX2 11 σ τ) (pc' := 78) (ls' := [(2, .int (X2_doing σ a1)), (0, .ref 0), (1, .int a1)]) (st' := [.int a1, .ref 2]) (ps := [(X2_doing σ a1).toInt = 0 + ((5 : Nat) : Int), 5 < 8, ¬ 7 < (X2_doing σ a1).toInt]) rfl ⟨(by rw [c7]; decide), (by decide), (by rw [c7]; decide), trivial⟩ ?_
              obtain ⟨q8, hq8, h⟩ := am_bind h
              refine hV.cBi 2 5 [] (as := [.int a1]) (rest := []) (st := [.int a1, .ref 2]) (ws2 := wX2 11 σ τ) (pc2 := 81) kX2_154 (c_X6_begunBy l n (am_sub σ 2) a1 q8 hq8) rfl rfl rfl rfl rfl rfl rfl rfl rfl rfl rfl rfl rfl rfl ?_
              cases h
              exact hV.ri rfl rfl rfl hP
            · rw [if_neg c7] at h
              by_cases c9 : (X2_doing σ a1) = 6
              · rw [if_pos c9] at h
                refine hV.run 5 [7] (ws' := wX2 11 σ τ) (pc' := 84) (ls' := [(2, .int (X2_doing σ a1)), (0, .ref 0), (1, .int a1)]) (st' := [.int (X2_doing σ a1), .ref 0]) (ps := [(X2_doing σ a1).toInt = 0 + ((6 : Nat) : Int), 6 < 8, ¬ 7 < (X2_doing σ a1).toInt]) rfl ⟨(by rw [c9]; decide), (by decide), (by rw [c9]; decide), trivial⟩ ?_
                obtain ⟨q10, hq10, h⟩ := am_bind h
                refine hV.cOi (as := [.int (X2_doing σ a1)]) (rest := []) (st := [.int (X2_doing σ a1), .ref 0]) (ws2 := wX2 11 σ τ) (pc2 := 87) kX2_157 (c_X2_notDoing l n σ τ (X2_doing σ a1) q10 hq10) rfl rfl rfl rfl rfl rfl rfl rfl rfl ?_
                cases h
                exact hV.ri rfl rfl rfl hP
              · rw [if_neg c9] at h
                by_cases c11 : (X2_doing σ a1) = 7
                · rw [if_pos c11] at h
                  refine hV.run 5 [8] (ws' := wX2 11 σ τ) (pc' := 84) (ls' := [(2, .int (X2_doing σ a1)), (0, .ref 0), (1, .int a1)]) (st' := [.int (X2_doing σ a1), .ref 0]) (ps := [(X2_doing σ a1).toInt = 0 + ((7 : Nat) : Int), 7 < 8, ¬ 7 < (X2_doing σ a1).toInt]) rfl ⟨(by rw [c11]; decide), (by decide), (by rw [c11]; decide), trivial⟩ ?_
                  obtain ⟨q12, hq12, h⟩ := am_bind h
                  refine hV.cOi (as := [.int (X2_doing σ a1)]) (rest := []) (st := [.int (X2_doing σ a1), .ref 0]) (ws2 := wX2 11 σ τ) (pc2 := 87) kX2_157 (c_X2_notDoing l n σ τ (X2_doing σ a1) q12 hq12) rfl rfl rfl rfl rfl rfl rfl rfl rfl ?_
                  cases h
                  exact hV.ri rfl rfl rfl hP
                · rw [if_neg c11] at h
                  refine hV.run 4 [0] (ws' := wX2 11 σ τ) (pc' := 89) (ls' := [(2, .int (X2_doing σ a1)), (0, .ref 0), (1, .int a1)]) (st' := [.int 0]) (ps := [(X2_doing σ a1).toInt < 0 ∨ 7 < (X2_doing σ a1).toInt]) rfl ⟨(by have c1_ := am_ne c1 (by decide : (0 : Int32).toInt = 0); have c2_ := am_ne c2 (by decide : (1 : Int32).toInt = 1); have c3_ := am_ne c3 (by decide : (2 : Int32).toInt = 2); have c4_ := am_ne c4 (by decide : (3 : Int32).toInt = 3); have c5_ := am_ne c5 (by decide : (4 : Int32).toInt = 4); have c7_ := am_ne c7 (by decide : (5 : Int32).toInt = 5); have c9_ := am_ne c9 (by decide : (6 : Int32).toInt = 6); have c11_ := am_ne c11 (by decide : (7 : Int32).toInt = 7); omega), trivial⟩ ?_
                  cases h
                  exact hV.ri rfl rfl rfl hP

