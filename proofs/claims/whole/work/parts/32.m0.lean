def X8_readInto_J34 (n : Nat) (σ : am_M) (l1 : Int32) (l2 : Int32) : Option am_M := if ((3 * (40 + l1)) + l2) < 0 ∨ 240 ≤ ((3 * (40 + l1)) + l2).toNatClampNeg then none else (some (sC σ 8 (upd (σ 8) ((3 * (40 + l1)) + l2).toNatClampNeg (σ 0 21))))
set_option maxRecDepth 100000 in
set_option maxHeartbeats 4000000 in
theorem p_X8_readInto_J34 {l : Launch} {Post : Option Value → am_W → Prop} {V : am_VT} (hV : am_B l RX8 false 100 (am_cdT' tX8_readInto) (am_rfL rfX8) none Post 36 V) (n : Nat) (res : am_M) (hP : Post none (wX8 res)) (σ : am_M) (l1 : Int32) (l2 : Int32) (h : X8_readInto_J34 n σ l1 l2 = some res) : V (wX8 σ) 34 [(0, .ref 0), (1, .int l1), (2, .int l2)] [] := by
  unfold X8_readInto_J34 at h
  by_cases g1 : ((3 * (40 + l1)) + l2) < 0 ∨ 240 ≤ ((3 * (40 + l1)) + l2).toNatClampNeg
  · rw [if_pos g1] at h; cases h
  rw [if_neg g1] at h
  refine hV.run 12 [] (ws' := wX8 (sC σ 8 (upd (σ 8) ((3 * (40 + l1)) + l2).toNatClampNeg (σ 0 21)))) (pc' := 51) (ls' := [(0, .ref 0), (1, .int l1), (2, .int l2)]) (st' := []) (ps := [vp_in ((3 * (40 + l1)) + l2) 240]) rfl ⟨g1, trivial⟩ ?_
  cases h
  exact hV.rv rfl rfl rfl hP
def X8_readInto (n : Nat) (σ : am_M) (a1 : Int32) (a2 : Int32) (a3 : Int32) : Option am_M := if ((3 * (40 + a1)) + a2) < 0 ∨ 240 ≤ ((3 * (40 + a1)) + a2).toNatClampNeg then none else (if a3 = 0 then (X8_readSum n (X8_readExpressionR n 9) (sC σ 7 (upd (σ 7) ((3 * (40 + a1)) + a2).toNatClampNeg (σ 0 21))) 0).bind (fun q3 => X8_readInto_J34 n q3 a1 a2) else (X8_readExpressionR n 9 (sC σ 7 (upd (σ 7) ((3 * (40 + a1)) + a2).toNatClampNeg (σ 0 21))) 0).bind (fun q4 => X8_readInto_J34 n q4 a1 a2))
set_option maxRecDepth 100000 in
set_option maxHeartbeats 4000000 in
theorem c_X8_readInto (l : Launch) (n : Nat) (σ : am_M) (a1 : Int32) (a2 : Int32) (a3 : Int32) (res : am_M) (h : X8_readInto n σ a1 a2 a3 = some res) : am_Con l yX8_readInto cX8_readInto 4 none 100 [.ref 0, .int a1, .int a2, .int a3] (wX8 σ) (fun (r : Option Value) (w : am_W) => r = none ∧ w = (wX8 res)) := by
  refine am_metn (n0 := 36) (own := RX8) (cd := am_cdT' tX8_readInto) (rf := am_rfL rfX8) (ini := false) rfl (by decide +kernel) rfl (by decide) dX8_readInto rfX8_ok (Nat.le_of_ble_eq_true rfl) ?_
  intro V hV
  have hP : (fun (r : Option Value) (w : am_W) => r = none ∧ w = (wX8 res)) none (wX8 res) := ⟨rfl, rfl⟩
  show V (wX8 σ) 0 [(0, .ref 0), (1, .int a1), (2, .int a2), (3, .int a3)] []
  unfold X8_readInto at h
  by_cases g1 : ((3 * (40 + a1)) + a2) < 0 ∨ 240 ≤ ((3 * (40 + a1)) + a2).toNatClampNeg
  · rw [if_pos g1] at h; cases h
  rw [if_neg g1] at h
  by_cases c2 : a3 = 0
  · rw [if_pos c2] at h
    refine hV.run 16 [1] (ws' := wX8 (sC σ 7 (upd (σ 7) ((3 * (40 + a1)) + a2).toNatClampNeg (σ 0 21)))) (pc' := 31) (ls' := [(0, .ref 0), (1, .int a1), (2, .int a2), (3, .int a3)]) (st' := [.int 0, .ref 0]) (ps := [vp_in ((3 * (40 + a1)) + a2) 240, a3 = 0]) rfl ⟨g1, c2, trivial⟩ ?_
    obtain ⟨q3, hq3, h⟩ := am_bind h
    refine hV.cOv (as := [.int 0]) (rest := []) (st := [.int 0, .ref 0]) (ws2 := wX8 q3) (pc2 := 34) kX8_273 (c_X8_readSum l n (X8_readExpressionR n 9) (10 * 9) (fun l => c_X8_readExpressionR l n 9) (sC σ 7 (upd (σ 7) ((3 * (40 + a1)) + a2).toNatClampNeg (σ 0 21))) 0 q3 hq3) rfl rfl rfl rfl rfl rfl rfl rfl rfl ?_
    refine hV.pick [0, 1, 2] (ls' := [(0, .ref 0), (1, .int a1), (2, .int a2)]) rfl ?_
    exact p_X8_readInto_J34 hV n res hP q3 a1 a2 h
  · rw [if_neg c2] at h
    refine hV.run 16 [0] (ws' := wX8 (sC σ 7 (upd (σ 7) ((3 * (40 + a1)) + a2).toNatClampNeg (σ 0 21)))) (pc' := 23) (ls' := [(0, .ref 0), (1, .int a1), (2, .int a2), (3, .int a3)]) (st' := [.int 0, .ref 0]) (ps := [vp_in ((3 * (40 + a1)) + a2) 240, ¬ a3 = 0]) rfl ⟨g1, c2, trivial⟩ ?_
    obtain ⟨q4, hq4, h⟩ := am_bind h
    refine hV.cOv (as := [.int 0]) (rest := []) (st := [.int 0, .ref 0]) (ws2 := wX8 q4) (pc2 := 26) kX8_261 (c_X8_readExpressionR l n 9 (sC σ 7 (upd (σ 7) ((3 * (40 + a1)) + a2).toNatClampNeg (σ 0 21))) 0 q4 hq4) rfl rfl rfl rfl rfl rfl rfl rfl rfl ?_
    refine hV.run 1 [] (ws' := wX8 q4) (pc' := 34) (ls' := [(0, .ref 0), (1, .int a1), (2, .int a2), (3, .int a3)]) (st' := []) (ps := []) rfl trivial ?_
    refine hV.pick [0, 1, 2] (ls' := [(0, .ref 0), (1, .int a1), (2, .int a2)]) rfl ?_
    exact p_X8_readInto_J34 hV n res hP q4 a1 a2 h

def X8_readVar_J60 (n : Nat) (σ : am_M) (l1 : Int32) : Option (Int32 × am_M) := if (σ 0 18) = 0 then (X8_stepOn n σ).bind (fun q2 => some (l1, q2)) else (some (l1, σ))
set_option maxRecDepth 100000 in
set_option maxHeartbeats 4000000 in
theorem p_X8_readVar_J60 {l : Launch} {Post : Option Value → am_W → Prop} {V : am_VT} (hV : am_B l RX8 false 7 (am_cdT' tX8_readVar) (am_rfL rfX8) (some .int) Post 36 V) (n : Nat) (res : (Int32 × am_M)) (hP : Post (some (.int res.1)) (wX8 res.2)) (σ : am_M) (l1 : Int32) (h : X8_readVar_J60 n σ l1 = some res) : V (wX8 σ) 60 [(0, .ref 0), (1, .int l1)] [] := by
  unfold X8_readVar_J60 at h
  by_cases c1 : (σ 0 18) = 0
  · rw [if_pos c1] at h
    refine hV.run 4 [0] (ws' := wX8 σ) (pc' := 68) (ls' := [(0, .ref 0), (1, .int l1)]) (st' := [.ref 0]) (ps := [(σ 0 18) = 0]) rfl ⟨c1, trivial⟩ ?_
    obtain ⟨q2, hq2, h⟩ := am_bind h
    refine hV.cOv (as := []) (rest := []) (st := [.ref 0]) (ws2 := wX8 q2) (pc2 := 71) kX8_245 (c_X8_stepOn l n σ q2 hq2) rfl rfl rfl rfl rfl rfl rfl rfl rfl ?_
    refine hV.run 1 [] (ws' := wX8 q2) (pc' := 72) (ls' := [(0, .ref 0), (1, .int l1)]) (st' := [.int l1]) (ps := []) rfl trivial ?_
    cases h
    exact hV.ri rfl rfl rfl hP
  · rw [if_neg c1] at h
    refine hV.run 4 [1] (ws' := wX8 σ) (pc' := 72) (ls' := [(0, .ref 0), (1, .int l1)]) (st' := [.int l1]) (ps := [¬ (σ 0 18) = 0]) rfl ⟨c1, trivial⟩ ?_
    cases h
    exact hV.ri rfl rfl rfl hP
def X8_readVar_J29 (n : Nat) (σ : am_M) (s0 : Int32) : Option (Int32 × am_M) := if (σ 0 13) = 1 then (if (X8_isIn s0 0 3) = true then (X8_readVar_J60 n σ s0) else (X8_wrong σ 3).bind (fun q3 => X8_readVar_J60 n q3 s0)) else (X8_wrong σ 1).bind (fun q4 => X8_readVar_J60 n q4 s0)
set_option maxRecDepth 100000 in
set_option maxHeartbeats 4000000 in
theorem p_X8_readVar_J29 {l : Launch} {Post : Option Value → am_W → Prop} {V : am_VT} (hV : am_B l RX8 false 7 (am_cdT' tX8_readVar) (am_rfL rfX8) (some .int) Post 36 V) (n : Nat) (res : (Int32 × am_M)) (hP : Post (some (.int res.1)) (wX8 res.2)) (σ : am_M) (s0 : Int32) (h : X8_readVar_J29 n σ s0 = some res) : V (wX8 σ) 29 [(0, .ref 0)] [.int s0] := by
  unfold X8_readVar_J29 at h
  by_cases c1 : (σ 0 13) = 1
  · rw [if_pos c1] at h
    refine hV.run 8 [1] (ws' := wX8 σ) (pc' := 49) (ls' := [(1, .int s0), (0, .ref 0)]) (st' := [.int 3, .int 0, .int s0]) (ps := [(σ 0 13) = 1]) rfl ⟨c1, trivial⟩ ?_
    refine hV.cSi (as := [.int s0, .int 0, .int 3]) (js := []) (rest := []) (st := [.int 3, .int 0, .int s0]) (ws2 := wX8 σ) (pc2 := 52) kX8_276 (c_X8_isIn l s0 0 3) rfl rfl rfl rfl rfl rfl rfl rfl rfl rfl ?_
    by_cases c2 : (X8_isIn s0 0 3) = true
    · rw [if_pos c2] at h
      refine hV.run 1 [1] (ws' := wX8 σ) (pc' := 60) (ls' := [(1, .int s0), (0, .ref 0)]) (st' := []) (ps := [¬ (b2i (X8_isIn s0 0 3)) = 0]) rfl ⟨(b2i_t c2), trivial⟩ ?_
      refine hV.pick [1, 0] (ls' := [(0, .ref 0), (1, .int s0)]) rfl ?_
      exact p_X8_readVar_J60 hV n res hP σ s0 h
    · rw [if_neg c2] at h
      refine hV.run 3 [0] (ws' := wX8 σ) (pc' := 57) (ls' := [(1, .int s0), (0, .ref 0)]) (st' := [.int 3, .ref 0]) (ps := [(b2i (X8_isIn s0 0 3)) = 0]) rfl ⟨(b2i_f c2), trivial⟩ ?_
      obtain ⟨q3, hq3, h⟩ := am_bind h
      refine hV.cOv (as := [.int 3]) (rest := []) (st := [.int 3, .ref 0]) (ws2 := wX8 q3) (pc2 := 60) kX8_241 (c_X8_wrong l σ 3 q3 hq3) rfl rfl rfl rfl rfl rfl rfl rfl rfl ?_
      refine hV.pick [1, 0] (ls' := [(0, .ref 0), (1, .int s0)]) rfl ?_
      exact p_X8_readVar_J60 hV n res hP q3 s0 h
  · rw [if_neg c1] at h
    refine hV.run 7 [0] (ws' := wX8 σ) (pc' := 40) (ls' := [(1, .int s0), (0, .ref 0)]) (st' := [.int 1, .ref 0]) (ps := [¬ (σ 0 13) = 1]) rfl ⟨c1, trivial⟩ ?_
    obtain ⟨q4, hq4, h⟩ := am_bind h
    refine hV.cOv (as := [.int 1]) (rest := []) (st := [.int 1, .ref 0]) (ws2 := wX8 q4) (pc2 := 43) kX8_241 (c_X8_wrong l σ 1 q4 hq4) rfl rfl rfl rfl rfl rfl rfl rfl rfl ?_
    refine hV.run 1 [] (ws' := wX8 q4) (pc' := 60) (ls' := [(1, .int s0), (0, .ref 0)]) (st' := []) (ps := []) rfl trivial ?_
    refine hV.pick [1, 0] (ls' := [(0, .ref 0), (1, .int s0)]) rfl ?_
    exact p_X8_readVar_J60 hV n res hP q4 s0 h
def X8_readVar (n : Nat) (σ : am_M) : Option (Int32 × am_M) := if (σ 0 18) = 0 then (if (σ 0 13) = 1 then (X8_whichV n σ).bind (fun q3 => X8_readVar_J29 n σ q3) else (X8_readVar_J29 n σ (-1))) else (some (0, σ))
set_option maxRecDepth 100000 in
set_option maxHeartbeats 4000000 in
theorem c_X8_readVar (l : Launch) (n : Nat) (σ : am_M) (res : (Int32 × am_M)) (h : X8_readVar n σ = some res) : am_Con l yX8_readVar cX8_readVar 2 (some .int) 7 [.ref 0] (wX8 σ) (fun (r : Option Value) (w : am_W) => r = (some (.int res.1)) ∧ w = (wX8 res.2)) := by
  refine am_metn (n0 := 36) (own := RX8) (cd := am_cdT' tX8_readVar) (rf := am_rfL rfX8) (ini := false) rfl (by decide +kernel) rfl (by decide) dX8_readVar rfX8_ok (Nat.le_of_ble_eq_true rfl) ?_
  intro V hV
  have hP : (fun (r : Option Value) (w : am_W) => r = (some (.int res.1)) ∧ w = (wX8 res.2)) (some (.int res.1)) (wX8 res.2) := ⟨rfl, rfl⟩
  show V (wX8 σ) 0 [(0, .ref 0)] []
  unfold X8_readVar at h
  by_cases c1 : (σ 0 18) = 0
  · rw [if_pos c1] at h
    by_cases c2 : (σ 0 13) = 1
    · rw [if_pos c2] at h
      refine hV.run 10 [1, 0] (ws' := wX8 σ) (pc' := 22) (ls' := [(0, .ref 0)]) (st' := [.ref 2, .ref 0]) (ps := [(σ 0 18) = 0, (σ 0 13) = 1]) rfl ⟨c1, c2, trivial⟩ ?_
      obtain ⟨q3, hq3, h⟩ := am_bind h
      refine hV.cOi (as := [.ref 2]) (rest := []) (st := [.ref 2, .ref 0]) (ws2 := wX8 σ) (pc2 := 25) kX8_257 (c_X8_whichV l n σ q3 hq3) rfl rfl rfl rfl rfl rfl rfl rfl rfl ?_
      refine hV.run 1 [] (ws' := wX8 σ) (pc' := 29) (ls' := [(0, .ref 0)]) (st' := [.int q3]) (ps := []) rfl trivial ?_
      exact p_X8_readVar_J29 hV n res hP σ q3 h
    · rw [if_neg c2] at h
      refine hV.run 8 [1, 1] (ws' := wX8 σ) (pc' := 29) (ls' := [(0, .ref 0)]) (st' := [.int (-1)]) (ps := [(σ 0 18) = 0, ¬ (σ 0 13) = 1]) rfl ⟨c1, c2, trivial⟩ ?_
      exact p_X8_readVar_J29 hV n res hP σ (-1) h
  · rw [if_neg c1] at h
    refine hV.run 4 [0] (ws' := wX8 σ) (pc' := 8) (ls' := [(0, .ref 0)]) (st' := [.int 0]) (ps := [¬ (σ 0 18) = 0]) rfl ⟨c1, trivial⟩ ?_
    cases h
    exact hV.ri rfl rfl rfl hP

