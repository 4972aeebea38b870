def X8_whichV_B2 (n : Nat) (σ : am_M) (kont2 : Int32 → Option Int32) (l2 : Int32) : Option Int32 := if (Int32.ofNat 7) ≤ l2 then (some (-1)) else (if l2 < 0 ∨ 7 ≤ l2.toNatClampNeg then none else (X8_is n σ (12 + l2.toNatClampNeg)).bind (fun q3 => if q3 = true then (some l2) else (kont2 (l2 + 1))))
def X8_whichV_L2 (n : Nat) (σ : am_M) : Nat → Int32 → Option Int32
 | 0 => fun _ => none
 | k + 1 => fun l2 => X8_whichV_B2 n σ (X8_whichV_L2 n σ k) l2
set_option maxRecDepth 100000 in
set_option maxHeartbeats 4000000 in
theorem p_X8_whichV_B2 {l : Launch} {Post : Option Value → am_W → Prop} {V : am_VT} (hV : am_B l RX8 false 6 (am_cdT' tX8_which) (am_rfL rfX8) (some .int) Post 36 V) (n : Nat) (σ : am_M) (res : Int32) (hP : Post (some (.int res)) (wX8 σ)) (kont2 : Int32 → Option Int32) (hk2 : ∀ (l2 : Int32), kont2 l2 = some res → V (wX8 σ) 2 [(0, .ref 0), (1, .ref 2), (2, .int l2)] []) (l2 : Int32) (h : X8_whichV_B2 n σ kont2 l2 = some res) : V (wX8 σ) 2 [(0, .ref 0), (1, .ref 2), (2, .int l2)] [] := by
  unfold X8_whichV_B2 at h
  by_cases c1 : (Int32.ofNat 7) ≤ l2
  · rw [if_pos c1] at h
    refine hV.run 5 [1] (ws' := wX8 σ) (pc' := 27) (ls' := [(0, .ref 0), (1, .ref 2), (2, .int l2)]) (st' := [.int (-1)]) (ps := [(Int32.ofNat 7) ≤ l2]) rfl ⟨c1, trivial⟩ ?_
    cases h
    exact hV.ri rfl rfl rfl hP
  · rw [if_neg c1] at h
    by_cases g2 : l2 < 0 ∨ 7 ≤ l2.toNatClampNeg
    · rw [if_pos g2] at h; cases h
    rw [if_neg g2] at h
    refine hV.run 8 [0] (ws' := wX8 σ) (pc' := 12) (ls' := [(0, .ref 0), (1, .ref 2), (2, .int l2)]) (st' := [.retAddr (12 + l2.toNatClampNeg), .ref 0]) (ps := [¬ (Int32.ofNat 7) ≤ l2, vp_in l2 7]) rfl ⟨c1, g2, trivial⟩ ?_
    obtain ⟨q3, hq3, h⟩ := am_bind h
    refine hV.cOi (as := [.retAddr (12 + l2.toNatClampNeg)]) (rest := []) (st := [.retAddr (12 + l2.toNatClampNeg), .ref 0]) (ws2 := wX8 σ) (pc2 := 15) kX8_234 (c_X8_is l n σ (12 + l2.toNatClampNeg) q3 hq3) rfl rfl rfl rfl rfl rfl rfl rfl rfl ?_
    by_cases c4 : q3 = true
    · rw [if_pos c4] at h
      refine hV.run 2 [0] (ws' := wX8 σ) (pc' := 19) (ls' := [(0, .ref 0), (1, .ref 2), (2, .int l2)]) (st' := [.int l2]) (ps := [¬ (b2i q3) = 0]) rfl ⟨(b2i_t c4), trivial⟩ ?_
      cases h
      exact hV.ri rfl rfl rfl hP
    · rw [if_neg c4] at h
      refine hV.run 3 [1] (ws' := wX8 σ) (pc' := 2) (ls' := [(2, .int (l2 + 1)), (0, .ref 0), (1, .ref 2)]) (st' := []) (ps := [(b2i q3) = 0]) rfl ⟨(b2i_f c4), trivial⟩ ?_
      refine hV.pick [1, 2, 0] (ls' := [(0, .ref 0), (1, .ref 2), (2, .int (l2 + 1))]) rfl ?_
      exact hk2 (l2 + 1) h
theorem p_X8_whichV_L2 {l : Launch} {Post : Option Value → am_W → Prop} {V : am_VT} (hV : am_B l RX8 false 6 (am_cdT' tX8_which) (am_rfL rfX8) (some .int) Post 36 V) (n : Nat) (σ : am_M) (res : Int32) (hP : Post (some (.int res)) (wX8 σ)) : ∀ (k : Nat) (l2 : Int32) (h : X8_whichV_L2 n σ k l2 = some res), V (wX8 σ) 2 [(0, .ref 0), (1, .ref 2), (2, .int l2)] [] := by
  intro k
  induction k with
  | zero => intro l2 h; cases h
  | succ k ih => intro l2 h; exact p_X8_whichV_B2 hV n σ res hP _ ih l2 h
def X8_whichV (n : Nat) (σ : am_M) : Option Int32 := X8_whichV_L2 n σ n 0
set_option maxRecDepth 100000 in
set_option maxHeartbeats 4000000 in
theorem c_X8_whichV (l : Launch) (n : Nat) (σ : am_M) (res : Int32) (h : X8_whichV n σ = some res) : am_Con l yX8_which cX8_which 3 (some .int) 6 [.ref 0, .ref 2] (wX8 σ) (fun (r : Option Value) (w : am_W) => r = (some (.int res)) ∧ w = (wX8 σ)) := by
  refine am_metn (n0 := 36) (own := RX8) (cd := am_cdT' tX8_which) (rf := am_rfL rfX8) (ini := false) rfl (by decide +kernel) rfl (by decide) dX8_which rfX8_ok (Nat.le_of_ble_eq_true rfl) ?_
  intro V hV
  have hP : (fun (r : Option Value) (w : am_W) => r = (some (.int res)) ∧ w = (wX8 σ)) (some (.int res)) (wX8 σ) := ⟨rfl, rfl⟩
  show V (wX8 σ) 0 [(0, .ref 0), (1, .ref 2)] []
  unfold X8_whichV at h
  refine hV.run 2 [] (ws' := wX8 σ) (pc' := 2) (ls' := [(2, .int 0), (0, .ref 0), (1, .ref 2)]) (st' := []) (ps := []) rfl trivial ?_
  refine hV.pick [1, 2, 0] (ls' := [(0, .ref 0), (1, .ref 2), (2, .int 0)]) rfl ?_
  exact p_X8_whichV_L2 hV n σ res hP n 0 h

def X8_need_J20 (n : Nat) (σ : am_M) : Option am_M := if (σ 0 18) = 0 then (X8_stepOn n σ).bind (fun q2 => some q2) else (some σ)
set_option maxRecDepth 100000 in
set_option maxHeartbeats 4000000 in
theorem p_X8_need_J20 {l : Launch} {Post : Option Value → am_W → Prop} {V : am_VT} (hV : am_B l RX8 false 3 (am_cdT' tX8_need) (am_rfL rfX8) none Post 36 V) (n : Nat) (res : am_M) (hP : Post none (wX8 res)) (σ : am_M) (h : X8_need_J20 n σ = some res) : V (wX8 σ) 20 [(0, .ref 0)] [] := by
  unfold X8_need_J20 at h
  by_cases c1 : (σ 0 18) = 0
  · rw [if_pos c1] at h
    refine hV.run 4 [0] (ws' := wX8 σ) (pc' := 28) (ls' := [(0, .ref 0)]) (st' := [.ref 0]) (ps := [(σ 0 18) = 0]) rfl ⟨c1, trivial⟩ ?_
    obtain ⟨q2, hq2, h⟩ := am_bind h
    refine hV.cOv (as := []) (rest := []) (st := [.ref 0]) (ws2 := wX8 q2) (pc2 := 31) kX8_245 (c_X8_stepOn l n σ q2 hq2) rfl rfl rfl rfl rfl rfl rfl rfl rfl ?_
    cases h
    exact hV.rv rfl rfl rfl hP
  · rw [if_neg c1] at h
    refine hV.run 3 [1] (ws' := wX8 σ) (pc' := 31) (ls' := [(0, .ref 0)]) (st' := []) (ps := [¬ (σ 0 18) = 0]) rfl ⟨c1, trivial⟩ ?_
    cases h
    exact hV.rv rfl rfl rfl hP
def X8_need (n : Nat) (σ : am_M) (a1 : Int32) : Option am_M := if (σ 0 18) = 0 then (if (X8_isSign σ a1) = true then (X8_need_J20 n σ) else (X8_wrong σ 1).bind (fun q3 => X8_need_J20 n q3)) else (X8_need_J20 n σ)
set_option maxRecDepth 100000 in
set_option maxHeartbeats 4000000 in
theorem c_X8_need (l : Launch) (n : Nat) (σ : am_M) (a1 : Int32) (res : am_M) (h : X8_need n σ a1 = some res) : am_Con l yX8_need cX8_need 2 none 3 [.ref 0, .int a1] (wX8 σ) (fun (r : Option Value) (w : am_W) => r = none ∧ w = (wX8 res)) := by
  refine am_metn (n0 := 36) (own := RX8) (cd := am_cdT' tX8_need) (rf := am_rfL rfX8) (ini := false) rfl (by decide +kernel) rfl (by decide) dX8_need rfX8_ok (Nat.le_of_ble_eq_true rfl) ?_
  intro V hV
  have hP : (fun (r : Option Value) (w : am_W) => r = none ∧ w = (wX8 res)) none (wX8 res) := ⟨rfl, rfl⟩
  show V (wX8 σ) 0 [(0, .ref 0), (1, .int a1)] []
  unfold X8_need at h
  by_cases c1 : (σ 0 18) = 0
  · rw [if_pos c1] at h
    refine hV.run 5 [0] (ws' := wX8 σ) (pc' := 9) (ls' := [(0, .ref 0), (1, .int a1)]) (st' := [.int a1, .ref 0]) (ps := [(σ 0 18) = 0]) rfl ⟨c1, trivial⟩ ?_
    refine hV.cOi (as := [.int a1]) (rest := []) (st := [.int a1, .ref 0]) (ws2 := wX8 σ) (pc2 := 12) kX8_238 (c_X8_isSign l σ a1) rfl rfl rfl rfl rfl rfl rfl rfl rfl ?_
    by_cases c2 : (X8_isSign σ a1) = true
    · rw [if_pos c2] at h
      refine hV.run 1 [1] (ws' := wX8 σ) (pc' := 20) (ls' := [(0, .ref 0), (1, .int a1)]) (st' := []) (ps := [¬ (b2i (X8_isSign σ a1)) = 0]) rfl ⟨(b2i_t c2), trivial⟩ ?_
      refine hV.pick [0] (ls' := [(0, .ref 0)]) rfl ?_
      exact p_X8_need_J20 hV n res hP σ h
    · rw [if_neg c2] at h
      refine hV.run 3 [0] (ws' := wX8 σ) (pc' := 17) (ls' := [(0, .ref 0), (1, .int a1)]) (st' := [.int 1, .ref 0]) (ps := [(b2i (X8_isSign σ a1)) = 0]) rfl ⟨(b2i_f c2), trivial⟩ ?_
      obtain ⟨q3, hq3, h⟩ := am_bind h
      refine hV.cOv (as := [.int 1]) (rest := []) (st := [.int 1, .ref 0]) (ws2 := wX8 q3) (pc2 := 20) kX8_241 (c_X8_wrong l σ 1 q3 hq3) rfl rfl rfl rfl rfl rfl rfl rfl rfl ?_
      refine hV.pick [0] (ls' := [(0, .ref 0)]) rfl ?_
      exact p_X8_need_J20 hV n res hP q3 h
  · rw [if_neg c1] at h
    refine hV.run 3 [1] (ws' := wX8 σ) (pc' := 20) (ls' := [(0, .ref 0), (1, .int a1)]) (st' := []) (ps := [¬ (σ 0 18) = 0]) rfl ⟨c1, trivial⟩ ?_
    refine hV.pick [0] (ls' := [(0, .ref 0)]) rfl ?_
    exact p_X8_need_J20 hV n res hP σ h

def X8_word_J20 (n : Nat) (σ : am_M) : Option am_M := if (σ 0 18) = 0 then (X8_stepOn n σ).bind (fun q2 => some q2) else (some σ)
set_option maxRecDepth 100000 in
set_option maxHeartbeats 4000000 in
theorem p_X8_word_J20 {l : Launch} {Post : Option Value → am_W → Prop} {V : am_VT} (hV : am_B l RX8 false 6 (am_cdT' tX8_word) (am_rfL rfX8) none Post 36 V) (n : Nat) (res : am_M) (hP : Post none (wX8 res)) (σ : am_M) (h : X8_word_J20 n σ = some res) : V (wX8 σ) 20 [(0, .ref 0)] [] := by
  unfold X8_word_J20 at h
  by_cases c1 : (σ 0 18) = 0
  · rw [if_pos c1] at h
    refine hV.run 4 [0] (ws' := wX8 σ) (pc' := 28) (ls' := [(0, .ref 0)]) (st' := [.ref 0]) (ps := [(σ 0 18) = 0]) rfl ⟨c1, trivial⟩ ?_
    obtain ⟨q2, hq2, h⟩ := am_bind h
    refine hV.cOv (as := []) (rest := []) (st := [.ref 0]) (ws2 := wX8 q2) (pc2 := 31) kX8_245 (c_X8_stepOn l n σ q2 hq2) rfl rfl rfl rfl rfl rfl rfl rfl rfl ?_
    cases h
    exact hV.rv rfl rfl rfl hP
  · rw [if_neg c1] at h
    refine hV.run 3 [1] (ws' := wX8 σ) (pc' := 31) (ls' := [(0, .ref 0)]) (st' := []) (ps := [¬ (σ 0 18) = 0]) rfl ⟨c1, trivial⟩ ?_
    cases h
    exact hV.rv rfl rfl rfl hP
def X8_word (n : Nat) (σ : am_M) (a1 : Nat) : Option am_M := if (σ 0 18) = 0 then (X8_is n σ a1).bind (fun q2 => if q2 = true then (X8_word_J20 n σ) else (X8_wrong σ 1).bind (fun q4 => X8_word_J20 n q4)) else (X8_word_J20 n σ)
set_option maxRecDepth 100000 in
set_option maxHeartbeats 4000000 in
theorem c_X8_word (l : Launch) (n : Nat) (σ : am_M) (a1 : Nat) (res : am_M) (h : X8_word n σ a1 = some res) : am_Con l yX8_word cX8_word 2 none 6 [.ref 0, .retAddr a1] (wX8 σ) (fun (r : Option Value) (w : am_W) => r = none ∧ w = (wX8 res)) := by
  refine am_metn (n0 := 36) (own := RX8) (cd := am_cdT' tX8_word) (rf := am_rfL rfX8) (ini := false) rfl (by decide +kernel) rfl (by decide) dX8_word rfX8_ok (Nat.le_of_ble_eq_true rfl) ?_
  intro V hV
  have hP : (fun (r : Option Value) (w : am_W) => r = none ∧ w = (wX8 res)) none (wX8 res) := ⟨rfl, rfl⟩
  show V (wX8 σ) 0 [(0, .ref 0), (1, .retAddr a1)] []
  unfold X8_word at h
  by_cases c1 : (σ 0 18) = 0
  · rw [if_pos c1] at h
    refine hV.run 5 [0] (ws' := wX8 σ) (pc' := 9) (ls' := [(0, .ref 0), (1, .retAddr a1)]) (st' := [.retAddr a1, .ref 0]) (ps := [(σ 0 18) = 0]) rfl ⟨c1, trivial⟩ ?_
    obtain ⟨q2, hq2, h⟩ := am_bind h
    refine hV.cOi (as := [.retAddr a1]) (rest := []) (st := [.retAddr a1, .ref 0]) (ws2 := wX8 σ) (pc2 := 12) kX8_234 (c_X8_is l n σ a1 q2 hq2) rfl rfl rfl rfl rfl rfl rfl rfl rfl ?_
    by_cases c3 : q2 = true
    · rw [if_pos c3] at h
      refine hV.run 1 [1] (ws' := wX8 σ) (pc' := 20) (ls' := [(0, .ref 0), (1, .retAddr a1)]) (st' := []) (ps := [¬ (b2i q2) = 0]) rfl ⟨(b2i_t c3), trivial⟩ ?_
      refine hV.pick [0] (ls' := [(0, .ref 0)]) rfl ?_
      exact p_X8_word_J20 hV n res hP σ h
    · rw [if_neg c3] at h
      refine hV.run 3 [0] (ws' := wX8 σ) (pc' := 17) (ls' := [(0, .ref 0), (1, .retAddr a1)]) (st' := [.int 1, .ref 0]) (ps := [(b2i q2) = 0]) rfl ⟨(b2i_f c3), trivial⟩ ?_
      obtain ⟨q4, hq4, h⟩ := am_bind h
      refine hV.cOv (as := [.int 1]) (rest := []) (st := [.int 1, .ref 0]) (ws2 := wX8 q4) (pc2 := 20) kX8_241 (c_X8_wrong l σ 1 q4 hq4) rfl rfl rfl rfl rfl rfl rfl rfl rfl ?_
      refine hV.pick [0] (ls' := [(0, .ref 0)]) rfl ?_
      exact p_X8_word_J20 hV n res hP q4 h
  · rw [if_neg c1] at h
    refine hV.run 3 [1] (ws' := wX8 σ) (pc' := 20) (ls' := [(0, .ref 0), (1, .retAddr a1)]) (st' := []) (ps := [¬ (σ 0 18) = 0]) rfl ⟨c1, trivial⟩ ?_
    refine hV.pick [0] (ls' := [(0, .ref 0)]) rfl ?_
    exact p_X8_word_J20 hV n res hP σ h

def X8_readNumber_J59 (n : Nat) (σ : am_M) : Option (Int32 × am_M) := if (σ 0 18) = 0 then (X8_stepOn n σ).bind (fun q2 => some ((σ 0 15), q2)) else (some ((σ 0 15), σ))
set_option maxRecDepth 100000 in
set_option maxHeartbeats 4000000 in
theorem p_X8_readNumber_J59 {l : Launch} {Post : Option Value → am_W → Prop} {V : am_VT} (hV : am_B l RX8 false 3 (am_cdT' tX8_readNumber) (am_rfL rfX8) (some .int) Post 36 V) (n : Nat) (res : (Int32 × am_M)) (hP : Post (some (.int res.1)) (wX8 res.2)) (σ : am_M) (h : X8_readNumber_J59 n σ = some res) : V (wX8 σ) 59 [(0, .ref 0)] [] := by
  unfold X8_readNumber_J59 at h
  by_cases c1 : (σ 0 18) = 0
  · rw [if_pos c1] at h
    refine hV.run 7 [0] (ws' := wX8 σ) (pc' := 72) (ls' := [(3, .int (σ 0 15)), (0, .ref 0)]) (st' := [.ref 0]) (ps := [(σ 0 18) = 0]) rfl ⟨c1, trivial⟩ ?_
    obtain ⟨q2, hq2, h⟩ := am_bind h
    refine hV.cOv (as := []) (rest := []) (st := [.ref 0]) (ws2 := wX8 q2) (pc2 := 75) kX8_245 (c_X8_stepOn l n σ q2 hq2) rfl rfl rfl rfl rfl rfl rfl rfl rfl ?_
    refine hV.run 1 [] (ws' := wX8 q2) (pc' := 76) (ls' := [(3, .int (σ 0 15)), (0, .ref 0)]) (st' := [.int (σ 0 15)]) (ps := []) rfl trivial ?_
    cases h
    exact hV.ri rfl rfl rfl hP
  · rw [if_neg c1] at h
    refine hV.run 7 [1] (ws' := wX8 σ) (pc' := 76) (ls' := [(3, .int (σ 0 15)), (0, .ref 0)]) (st' := [.int (σ 0 15)]) (ps := [¬ (σ 0 18) = 0]) rfl ⟨c1, trivial⟩ ?_
    cases h
    exact hV.ri rfl rfl rfl hP
def X8_readNumber_J54 (n : Nat) (σ : am_M) : Option (Int32 × am_M) := (X8_wrong σ 2).bind (fun q1 => X8_readNumber_J59 n q1)
set_option maxRecDepth 100000 in
set_option maxHeartbeats 4000000 in
theorem p_X8_readNumber_J54 {l : Launch} {Post : Option Value → am_W → Prop} {V : am_VT} (hV : am_B l RX8 false 3 (am_cdT' tX8_readNumber) (am_rfL rfX8) (some .int) Post 36 V) (n : Nat) (res : (Int32 × am_M)) (hP : Post (some (.int res.1)) (wX8 res.2)) (σ : am_M) (h : X8_readNumber_J54 n σ = some res) : V (wX8 σ) 54 [(0, .ref 0)] [] := by
  unfold X8_readNumber_J54 at h
  refine hV.run 2 [] (ws' := wX8 σ) (pc' := 56) (ls' := [(0, .ref 0)]) (st' := [.int 2, .ref 0]) (ps := []) rfl trivial ?_
  obtain ⟨q1, hq1, h⟩ := am_bind h
  refine hV.cOv (as := [.int 2]) (rest := []) (st := [.int 2, .ref 0]) (ws2 := wX8 q1) (pc2 := 59) kX8_241 (c_X8_wrong l σ 2 q1 hq1) rfl rfl rfl rfl rfl rfl rfl rfl rfl ?_
  exact p_X8_readNumber_J59 hV n res hP q1 h
def X8_readNumber (n : Nat) (σ : am_M) (a1 : Int32) (a2 : Int32) : Option (Int32 × am_M) := if (σ 0 18) = 0 then (if (σ 0 13) = 2 then (if 4 < ((σ 0 17) - (σ 0 16)) then (X8_readNumber_J54 n σ) else (if (σ 0 15) < a1 then (X8_readNumber_J54 n σ) else (if (σ 0 15) ≤ a2 then (X8_readNumber_J59 n σ) else (X8_readNumber_J54 n σ)))) else (X8_wrong σ 1).bind (fun q6 => X8_readNumber_J59 n q6)) else (some (0, σ))
set_option maxRecDepth 100000 in
set_option maxHeartbeats 4000000 in
theorem c_X8_readNumber (l : Launch) (n : Nat) (σ : am_M) (a1 : Int32) (a2 : Int32) (res : (Int32 × am_M)) (h : X8_readNumber n σ a1 a2 = some res) : am_Con l yX8_readNumber cX8_readNumber 4 (some .int) 3 [.ref 0, .int a1, .int a2] (wX8 σ) (fun (r : Option Value) (w : am_W) => r = (some (.int res.1)) ∧ w = (wX8 res.2)) := by
  refine am_metn (n0 := 36) (own := RX8) (cd := am_cdT' tX8_readNumber) (rf := am_rfL rfX8) (ini := false) rfl (by decide +kernel) rfl (by decide) dX8_readNumber rfX8_ok (Nat.le_of_ble_eq_true rfl) ?_
  intro V hV
  have hP : (fun (r : Option Value) (w : am_W) => r = (some (.int res.1)) ∧ w = (wX8 res.2)) (some (.int res.1)) (wX8 res.2) := ⟨rfl, rfl⟩
  show V (wX8 σ) 0 [(0, .ref 0), (1, .int a1), (2, .int a2)] []
  unfold X8_readNumber at h
  by_cases c1 : (σ 0 18) = 0
  · rw [if_pos c1] at h
    by_cases c2 : (σ 0 13) = 2
    · rw [if_pos c2] at h
      by_cases c3 : 4 < ((σ 0 17) - (σ 0 16))
      · rw [if_pos c3] at h
        refine hV.run 14 [1, 1, 1] (ws' := wX8 σ) (pc' := 54) (ls' := [(0, .ref 0), (1, .int a1), (2, .int a2)]) (st' := []) (ps := [(σ 0 18) = 0, (σ 0 13) = 2, 4 < ((σ 0 17) - (σ 0 16))]) rfl ⟨c1, c2, c3, trivial⟩ ?_
        refine hV.pick [0] (ls' := [(0, .ref 0)]) rfl ?_
        exact p_X8_readNumber_J54 hV n res hP σ h
      · rw [if_neg c3] at h
        by_cases c4 : (σ 0 15) < a1
        · rw [if_pos c4] at h
          refine hV.run 18 [1, 1, 0, 1] (ws' := wX8 σ) (pc' := 54) (ls' := [(0, .ref 0), (1, .int a1), (2, .int a2)]) (st' := []) (ps := [(σ 0 18) = 0, (σ 0 13) = 2, ¬ 4 < ((σ 0 17) - (σ 0 16)), (σ 0 15) < a1]) rfl ⟨c1, c2, c3, c4, trivial⟩ ?_
          refine hV.pick [0] (ls' := [(0, .ref 0)]) rfl ?_
          exact p_X8_readNumber_J54 hV n res hP σ h
        · rw [if_neg c4] at h
          by_cases c5 : (σ 0 15) ≤ a2
          · rw [if_pos c5] at h
            refine hV.run 22 [1, 1, 0, 0, 1] (ws' := wX8 σ) (pc' := 59) (ls' := [(0, .ref 0), (1, .int a1), (2, .int a2)]) (st' := []) (ps := [(σ 0 18) = 0, (σ 0 13) = 2, ¬ 4 < ((σ 0 17) - (σ 0 16)), ¬ (σ 0 15) < a1, (σ 0 15) ≤ a2]) rfl ⟨c1, c2, c3, c4, c5, trivial⟩ ?_
            refine hV.pick [0] (ls' := [(0, .ref 0)]) rfl ?_
            exact p_X8_readNumber_J59 hV n res hP σ h
          · rw [if_neg c5] at h
            refine hV.run 22 [1, 1, 0, 0, 0] (ws' := wX8 σ) (pc' := 54) (ls' := [(0, .ref 0), (1, .int a1), (2, .int a2)]) (st' := []) (ps := [(σ 0 18) = 0, (σ 0 13) = 2, ¬ 4 < ((σ 0 17) - (σ 0 16)), ¬ (σ 0 15) < a1, ¬ (σ 0 15) ≤ a2]) rfl ⟨c1, c2, c3, c4, c5, trivial⟩ ?_
            refine hV.pick [0] (ls' := [(0, .ref 0)]) rfl ?_
            exact p_X8_readNumber_J54 hV n res hP σ h
    · rw [if_neg c2] at h
      refine hV.run 9 [1, 0] (ws' := wX8 σ) (pc' := 19) (ls' := [(0, .ref 0), (1, .int a1), (2, .int a2)]) (st' := [.int 1, .ref 0]) (ps := [(σ 0 18) = 0, ¬ (σ 0 13) = 2]) rfl ⟨c1, c2, trivial⟩ ?_
      obtain ⟨q6, hq6, h⟩ := am_bind h
      refine hV.cOv (as := [.int 1]) (rest := []) (st := [.int 1, .ref 0]) (ws2 := wX8 q6) (pc2 := 22) kX8_241 (c_X8_wrong l σ 1 q6 hq6) rfl rfl rfl rfl rfl rfl rfl rfl rfl ?_
      refine hV.run 1 [] (ws' := wX8 q6) (pc' := 59) (ls' := [(0, .ref 0), (1, .int a1), (2, .int a2)]) (st' := []) (ps := []) rfl trivial ?_
      refine hV.pick [0] (ls' := [(0, .ref 0)]) rfl ?_
      exact p_X8_readNumber_J59 hV n res hP q6 h
  · rw [if_neg c1] at h
    refine hV.run 4 [0] (ws' := wX8 σ) (pc' := 8) (ls' := [(0, .ref 0), (1, .int a1), (2, .int a2)]) (st' := [.int 0]) (ps := [¬ (σ 0 18) = 0]) rfl ⟨c1, trivial⟩ ?_
    cases h
    exact hV.ri rfl rfl rfl hP

def X8_emit (σ : am_M) (a1 : Int32) : Option am_M := if (σ 0 18) = 0 then (if (1080 + (σ 0 21)) < 0 ∨ 2160 ≤ (1080 + (σ 0 21)).toNatClampNeg then none else (some (sC (sC σ 0 (am_u (σ 0) 21 ((σ 0 21) + 1))) 5 (upd (σ 5) (1080 + (σ 0 21)).toNatClampNeg a1)))) else (some σ)
set_option maxRecDepth 100000 in
set_option maxHeartbeats 4000000 in
theorem c_X8_emit (l : Launch) (σ : am_M) (a1 : Int32) (res : am_M) (h : X8_emit σ a1 = some res) : am_Con l yX8_emit cX8_emit 2 none 1 [.ref 0, .int a1] (wX8 σ) (fun (r : Option Value) (w : am_W) => r = none ∧ w = (wX8 res)) := by
  refine am_metn (n0 := 36) (own := RX8) (cd := am_cdT' tX8_emit) (rf := am_rfL rfX8) (ini := false) rfl (by decide +kernel) rfl (by decide) dX8_emit rfX8_ok (Nat.le_of_ble_eq_true rfl) ?_
  intro V hV
  have hP : (fun (r : Option Value) (w : am_W) => r = none ∧ w = (wX8 res)) none (wX8 res) := ⟨rfl, rfl⟩
  show V (wX8 σ) 0 [(0, .ref 0), (1, .int a1)] []
  unfold X8_emit at h
  by_cases c1 : (σ 0 18) = 0
  · rw [if_pos c1] at h
    by_cases g2 : (1080 + (σ 0 21)) < 0 ∨ 2160 ≤ (1080 + (σ 0 21)).toNatClampNeg
    · rw [if_pos g2] at h; cases h
    rw [if_neg g2] at h
    refine hV.run 17 [1] (ws' := wX8 (sC (sC σ 0 (am_u (σ 0) 21 ((σ 0 21) + 1))) 5 (upd (σ 5) (1080 + (σ 0 21)).toNatClampNeg a1))) (pc' := 32) (ls' := [(0, .ref 0), (1, .int a1)]) (st' := []) (ps := [(σ 0 18) = 0, vp_in (1080 + (σ 0 21)) 2160]) rfl ⟨c1, g2, trivial⟩ ?_
    cases h
    exact hV.rv rfl rfl rfl hP
  · rw [if_neg c1] at h
    refine hV.run 3 [0] (ws' := wX8 σ) (pc' := 7) (ls' := [(0, .ref 0), (1, .int a1)]) (st' := []) (ps := [¬ (σ 0 18) = 0]) rfl ⟨c1, trivial⟩ ?_
    cases h
    exact hV.rv rfl rfl rfl hP

