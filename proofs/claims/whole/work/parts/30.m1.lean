def X8_isDigit (a1 : Int32) : Bool := if a1 < 48 then (false) else (if 57 < a1 then (false) else (true))
set_option maxRecDepth 100000 in
set_option maxHeartbeats 4000000 in
theorem c_X8_isDigit (l : Launch) (a1 : Int32) : am_Con l yX8_isDigit cX8_isDigit 1 (some .boolean) 1 [.int a1] [] (fun (r : Option Value) (w : am_W) => r = (some (.int (b2i (X8_isDigit a1)))) ∧ w = []) := by
  obtain ⟨res, h⟩ : ∃ res, (X8_isDigit a1) = res := ⟨_, rfl⟩
  rw [h]
  refine am_metn (n0 := 0) (own := RX8) (cd := am_cdT' tX8_isDigit) (rf := am_rfL rfX8) (ini := false) rfl (by decide +kernel) rfl (by decide) dX8_isDigit rfX8_ok (Nat.le_of_ble_eq_true rfl) ?_
  intro V hV
  have hP : (fun (r : Option Value) (w : am_W) => r = (some (.int (b2i res))) ∧ w = []) (some (.int (b2i res))) [] := ⟨rfl, rfl⟩
  show V [] 0 [(0, .int a1)] []
  unfold X8_isDigit at h
  by_cases c1 : a1 < 48
  · rw [if_pos c1] at h
    refine hV.run 4 [1] (ws' := []) (pc' := 17) (ls' := [(0, .int a1)]) (st' := [.int 0]) (ps := [a1 < 48]) rfl ⟨c1, trivial⟩ ?_
    subst h
    exact hV.rz rfl rfl rfl (Or.inl rfl) hP
  · rw [if_neg c1] at h
    by_cases c2 : 57 < a1
    · rw [if_pos c2] at h
      refine hV.run 7 [0, 1] (ws' := []) (pc' := 17) (ls' := [(0, .int a1)]) (st' := [.int 0]) (ps := [¬ a1 < 48, 57 < a1]) rfl ⟨c1, c2, trivial⟩ ?_
      subst h
      exact hV.rz rfl rfl rfl (Or.inl rfl) hP
    · rw [if_neg c2] at h
      refine hV.run 8 [0, 0] (ws' := []) (pc' := 17) (ls' := [(0, .int a1)]) (st' := [.int 1]) (ps := [¬ a1 < 48, ¬ 57 < a1]) rfl ⟨c1, c2, trivial⟩ ?_
      subst h
      exact hV.rz rfl rfl rfl (Or.inr rfl) hP

def X8_stepOn_J26 (n : Nat) (kont0 : am_M → Option am_M) (σ : am_M) : Option am_M := kont0 (sC σ 0 (am_u (σ 0) 11 ((σ 0 11) + 1)))
set_option maxRecDepth 100000 in
set_option maxHeartbeats 4000000 in
theorem p_X8_stepOn_J26 {l : Launch} {Post : Option Value → am_W → Prop} {V : am_VT} (hV : am_B l RX8 false 2 (am_cdT' tX8_stepOn) (am_rfL rfX8) none Post 36 V) (n : Nat) (res : am_M) (hP : Post none (wX8 res)) (kont0 : am_M → Option am_M) (hk0 : ∀ (σ : am_M), kont0 σ = some res → V (wX8 σ) 0 [(0, .ref 0)] []) (σ : am_M) (h : X8_stepOn_J26 n kont0 σ = some res) : V (wX8 σ) 26 [(0, .ref 0)] [] := by
  unfold X8_stepOn_J26 at h
  refine hV.run 7 [] (ws' := wX8 (sC σ 0 (am_u (σ 0) 11 ((σ 0 11) + 1)))) (pc' := 0) (ls' := [(0, .ref 0)]) (st' := []) (ps := []) rfl trivial ?_
  exact hk0 (sC σ 0 (am_u (σ 0) 11 ((σ 0 11) + 1))) h
def X8_stepOn_J279 (n : Nat) (σ : am_M) : Option am_M := some (sC σ 0 (am_u (σ 0) 17 (σ 0 11)))
set_option maxRecDepth 100000 in
set_option maxHeartbeats 4000000 in
theorem p_X8_stepOn_J279 {l : Launch} {Post : Option Value → am_W → Prop} {V : am_VT} (hV : am_B l RX8 false 2 (am_cdT' tX8_stepOn) (am_rfL rfX8) none Post 36 V) (n : Nat) (res : am_M) (hP : Post none (wX8 res)) (σ : am_M) (h : X8_stepOn_J279 n σ = some res) : V (wX8 σ) 279 [(0, .ref 0)] [] := by
  unfold X8_stepOn_J279 at h
  refine hV.run 4 [] (ws' := wX8 (sC σ 0 (am_u (σ 0) 17 (σ 0 11)))) (pc' := 287) (ls' := [(0, .ref 0)]) (st' := []) (ps := []) rfl trivial ?_
  cases h
  exact hV.rv rfl rfl rfl hP
def X8_stepOn_B81 (n : Nat) (kont81 : am_M → Option am_M) (σ : am_M) : Option am_M := (X8_byteAt σ (σ 0 11)).bind (fun q1 => if (X8_isLetter q1) = true then (kont81 (sC σ 0 (am_u (σ 0) 11 ((σ 0 11) + 1)))) else (X8_stepOn_J279 n (sC σ 0 (am_u (σ 0) 13 1))))
def X8_stepOn_L81 (n : Nat) : Nat → am_M → Option am_M
 | 0 => fun _ => none
 | k + 1 => fun σ => X8_stepOn_B81 n (X8_stepOn_L81 n k) σ
set_option maxRecDepth 100000 in
set_option maxHeartbeats 4000000 in
theorem p_X8_stepOn_B81 {l : Launch} {Post : Option Value → am_W → Prop} {V : am_VT} (hV : am_B l RX8 false 2 (am_cdT' tX8_stepOn) (am_rfL rfX8) none Post 36 V) (n : Nat) (res : am_M) (hP : Post none (wX8 res)) (kont81 : am_M → Option am_M) (hk81 : ∀ (σ : am_M), kont81 σ = some res → V (wX8 σ) 81 [(0, .ref 0)] []) (σ : am_M) (h : X8_stepOn_B81 n kont81 σ = some res) : V (wX8 σ) 81 [(0, .ref 0)] [] := by
  unfold X8_stepOn_B81 at h
  refine hV.run 3 [] (ws' := wX8 σ) (pc' := 86) (ls' := [(0, .ref 0)]) (st' := [.int (σ 0 11), .ref 0]) (ps := []) rfl trivial ?_
  obtain ⟨q1, hq1, h⟩ := am_bind h
  refine hV.cOi (as := [.int (σ 0 11)]) (rest := []) (st := [.int (σ 0 11), .ref 0]) (ws2 := wX8 σ) (pc2 := 89) kX8_187 (c_X8_byteAt l σ (σ 0 11) q1 hq1) rfl rfl rfl rfl rfl rfl rfl rfl rfl ?_
  refine hV.cSi (as := [.int q1]) (js := []) (rest := []) (st := [.int q1]) (ws2 := wX8 σ) (pc2 := 92) kX8_200 (c_X8_isLetter l q1) rfl rfl rfl rfl rfl rfl rfl rfl rfl rfl ?_
  by_cases c2 : (X8_isLetter q1) = true
  · rw [if_pos c2] at h
    refine hV.run 8 [0] (ws' := wX8 (sC σ 0 (am_u (σ 0) 11 ((σ 0 11) + 1)))) (pc' := 81) (ls' := [(0, .ref 0)]) (st' := []) (ps := [¬ (b2i (X8_isLetter q1)) = 0]) rfl ⟨(b2i_t c2), trivial⟩ ?_
    exact hk81 (sC σ 0 (am_u (σ 0) 11 ((σ 0 11) + 1))) h
  · rw [if_neg c2] at h
    refine hV.run 5 [1] (ws' := wX8 (sC σ 0 (am_u (σ 0) 13 1))) (pc' := 279) (ls' := [(0, .ref 0)]) (st' := []) (ps := [(b2i (X8_isLetter q1)) = 0]) rfl ⟨(b2i_f c2), trivial⟩ ?_
    exact p_X8_stepOn_J279 hV n res hP (sC σ 0 (am_u (σ 0) 13 1)) h
theorem p_X8_stepOn_L81 {l : Launch} {Post : Option Value → am_W → Prop} {V : am_VT} (hV : am_B l RX8 false 2 (am_cdT' tX8_stepOn) (am_rfL rfX8) none Post 36 V) (n : Nat) (res : am_M) (hP : Post none (wX8 res)) : ∀ (k : Nat) (σ : am_M) (h : X8_stepOn_L81 n k σ = some res), V (wX8 σ) 81 [(0, .ref 0)] [] := by
  intro k
  induction k with
  | zero => intro σ h; cases h
  | succ k ih => intro σ h; exact p_X8_stepOn_B81 hV n res hP _ ih σ h
def X8_stepOn_B128 (n : Nat) (kont128 : am_M → Option am_M) (σ : am_M) : Option am_M := (X8_byteAt σ (σ 0 11)).bind (fun q1 => if (X8_isDigit q1) = true then (X8_byteAt σ (σ 0 11)).bind (fun q3 => kont128 (sC σ 0 (am_u (am_u (σ 0) 11 ((σ 0 11) + 1)) 15 (J9_min_7cf53 100000 (((10 * (σ 0 15)) + q3) - 48))))) else (X8_stepOn_J279 n (sC σ 0 (am_u (σ 0) 13 2))))
def X8_stepOn_L128 (n : Nat) : Nat → am_M → Option am_M
 | 0 => fun _ => none
 | k + 1 => fun σ => X8_stepOn_B128 n (X8_stepOn_L128 n k) σ
set_option maxRecDepth 100000 in
set_option maxHeartbeats 4000000 in
theorem p_X8_stepOn_B128 {l : Launch} {Post : Option Value → am_W → Prop} {V : am_VT} (hV : am_B l RX8 false 2 (am_cdT' tX8_stepOn) (am_rfL rfX8) none Post 36 V) (n : Nat) (res : am_M) (hP : Post none (wX8 res)) (kont128 : am_M → Option am_M) (hk128 : ∀ (σ : am_M), kont128 σ = some res → V (wX8 σ) 128 [(0, .ref 0)] []) (σ : am_M) (h : X8_stepOn_B128 n kont128 σ = some res) : V (wX8 σ) 128 [(0, .ref 0)] [] := by
  unfold X8_stepOn_B128 at h
  refine hV.run 3 [] (ws' := wX8 σ) (pc' := 133) (ls' := [(0, .ref 0)]) (st' := [.int (σ 0 11), .ref 0]) (ps := []) rfl trivial ?_
  obtain ⟨q1, hq1, h⟩ := am_bind h
  refine hV.cOi (as := [.int (σ 0 11)]) (rest := []) (st := [.int (σ 0 11), .ref 0]) (ws2 := wX8 σ) (pc2 := 136) kX8_187 (c_X8_byteAt l σ (σ 0 11) q1 hq1) rfl rfl rfl rfl rfl rfl rfl rfl rfl ?_
  refine hV.cSi (as := [.int q1]) (js := []) (rest := []) (st := [.int q1]) (ws2 := wX8 σ) (pc2 := 139) kX8_204 (c_X8_isDigit l q1) rfl rfl rfl rfl rfl rfl rfl rfl rfl rfl ?_
  by_cases c2 : (X8_isDigit q1) = true
  · rw [if_pos c2] at h
    refine hV.run 2 [0] (ws' := wX8 σ) (pc' := 143) (ls' := [(0, .ref 0)]) (st' := [.ref 0]) (ps := [¬ (b2i (X8_isDigit q1)) = 0]) rfl ⟨(b2i_t c2), trivial⟩ ?_
    refine hV.kI 1589 (pc := 143) (idx := 210) (v := 100000) (ws := wX8 σ) (ls := [(0, .ref 0)]) (st := [.ref 0]) rfl (by decide +kernel) rfl ?_
    refine hV.run 7 [] (ws' := wX8 σ) (pc' := 157) (ls' := [(0, .ref 0)]) (st' := [.int (σ 0 11), .ref 0, .int (10 * (σ 0 15)), .int 100000, .ref 0]) (ps := []) rfl trivial ?_
    obtain ⟨q3, hq3, h⟩ := am_bind h
    refine hV.cOi (as := [.int (σ 0 11)]) (rest := [.int (10 * (σ 0 15)), .int 100000, .ref 0]) (st := [.int (σ 0 11), .ref 0, .int (10 * (σ 0 15)), .int 100000, .ref 0]) (ws2 := wX8 σ) (pc2 := 160) kX8_187 (c_X8_byteAt l σ (σ 0 11) q3 hq3) rfl rfl rfl rfl rfl rfl rfl rfl rfl ?_
    refine hV.run 3 [] (ws' := wX8 σ) (pc' := 164) (ls' := [(0, .ref 0)]) (st' := [.int (((10 * (σ 0 15)) + q3) - 48), .int 100000, .ref 0]) (ps := []) rfl trivial ?_
    refine hV.cSi (as := [.int 100000, .int (((10 * (σ 0 15)) + q3) - 48)]) (js := []) (rest := [.ref 0]) (st := [.int (((10 * (σ 0 15)) + q3) - 48), .int 100000, .ref 0]) (ws2 := wX8 σ) (pc2 := 167) kX8_211 (c_J9_min_7cf53 l 100000 (((10 * (σ 0 15)) + q3) - 48)) rfl rfl rfl rfl rfl rfl rfl rfl rfl rfl ?_
    refine hV.run 8 [] (ws' := wX8 (sC σ 0 (am_u (am_u (σ 0) 11 ((σ 0 11) + 1)) 15 (J9_min_7cf53 100000 (((10 * (σ 0 15)) + q3) - 48))))) (pc' := 128) (ls' := [(0, .ref 0)]) (st' := []) (ps := []) rfl trivial ?_
    exact hk128 (sC σ 0 (am_u (am_u (σ 0) 11 ((σ 0 11) + 1)) 15 (J9_min_7cf53 100000 (((10 * (σ 0 15)) + q3) - 48)))) h
  · rw [if_neg c2] at h
    refine hV.run 5 [1] (ws' := wX8 (sC σ 0 (am_u (σ 0) 13 2))) (pc' := 279) (ls' := [(0, .ref 0)]) (st' := []) (ps := [(b2i (X8_isDigit q1)) = 0]) rfl ⟨(b2i_f c2), trivial⟩ ?_
    exact p_X8_stepOn_J279 hV n res hP (sC σ 0 (am_u (σ 0) 13 2)) h
theorem p_X8_stepOn_L128 {l : Launch} {Post : Option Value → am_W → Prop} {V : am_VT} (hV : am_B l RX8 false 2 (am_cdT' tX8_stepOn) (am_rfL rfX8) none Post 36 V) (n : Nat) (res : am_M) (hP : Post none (wX8 res)) : ∀ (k : Nat) (σ : am_M) (h : X8_stepOn_L128 n k σ = some res), V (wX8 σ) 128 [(0, .ref 0)] [] := by
  intro k
  induction k with
  | zero => intro σ h; cases h
  | succ k ih => intro σ h; exact p_X8_stepOn_B128 hV n res hP _ ih σ h
def X8_stepOn_J271 (n : Nat) (σ : am_M) (l1 : Int32) (s0 : Int32) : Option am_M := X8_stepOn_J279 n (sC σ 0 (am_u (am_u (σ 0) 13 s0) 14 l1))
set_option maxRecDepth 100000 in
set_option maxHeartbeats 4000000 in
theorem p_X8_stepOn_J271 {l : Launch} {Post : Option Value → am_W → Prop} {V : am_VT} (hV : am_B l RX8 false 2 (am_cdT' tX8_stepOn) (am_rfL rfX8) none Post 36 V) (n : Nat) (res : am_M) (hP : Post none (wX8 res)) (σ : am_M) (l1 : Int32) (s0 : Int32) (h : X8_stepOn_J271 n σ l1 s0 = some res) : V (wX8 σ) 271 [(0, .ref 0), (1, .int l1)] [.int s0, .ref 0] := by
  unfold X8_stepOn_J271 at h
  refine hV.run 4 [] (ws' := wX8 (sC σ 0 (am_u (am_u (σ 0) 13 s0) 14 l1))) (pc' := 279) (ls' := [(0, .ref 0), (1, .int l1)]) (st' := []) (ps := []) rfl trivial ?_
  refine hV.pick [0] (ls' := [(0, .ref 0)]) rfl ?_
  exact p_X8_stepOn_J279 hV n res hP (sC σ 0 (am_u (am_u (σ 0) 13 s0) 14 l1)) h
def X8_stepOn_J260 (n : Nat) (σ : am_M) (l1 : Int32) (s0 : Int32) : Option am_M := if s0 = 0 then (X8_stepOn_J271 n σ l1 4) else (X8_stepOn_J271 n σ l1 3)
set_option maxRecDepth 100000 in
set_option maxHeartbeats 4000000 in
theorem p_X8_stepOn_J260 {l : Launch} {Post : Option Value → am_W → Prop} {V : am_VT} (hV : am_B l RX8 false 2 (am_cdT' tX8_stepOn) (am_rfL rfX8) none Post 36 V) (n : Nat) (res : am_M) (hP : Post none (wX8 res)) (σ : am_M) (l1 : Int32) (s0 : Int32) (h : X8_stepOn_J260 n σ l1 s0 = some res) : V (wX8 σ) 260 [(0, .ref 0), (1, .int l1)] [.int s0] := by
  unfold X8_stepOn_J260 at h
  by_cases c1 : s0 = 0
  · rw [if_pos c1] at h
    refine hV.run 5 [1] (ws' := wX8 σ) (pc' := 271) (ls' := [(2, .int s0), (0, .ref 0), (1, .int l1)]) (st' := [.int 4, .ref 0]) (ps := [s0 = 0]) rfl ⟨c1, trivial⟩ ?_
    refine hV.pick [1, 2] (ls' := [(0, .ref 0), (1, .int l1)]) rfl ?_
    exact p_X8_stepOn_J271 hV n res hP σ l1 4 h
  · rw [if_neg c1] at h
    refine hV.run 6 [0] (ws' := wX8 σ) (pc' := 271) (ls' := [(2, .int s0), (0, .ref 0), (1, .int l1)]) (st' := [.int 3, .ref 0]) (ps := [¬ s0 = 0]) rfl ⟨c1, trivial⟩ ?_
    refine hV.pick [1, 2] (ls' := [(0, .ref 0), (1, .int l1)]) rfl ?_
    exact p_X8_stepOn_J271 hV n res hP σ l1 3 h
def X8_stepOn_J255 (n : Nat) (σ : am_M) (l1 : Int32) : Option am_M := X8_stepOn_J260 n σ l1 1
set_option maxRecDepth 100000 in
set_option maxHeartbeats 4000000 in
theorem p_X8_stepOn_J255 {l : Launch} {Post : Option Value → am_W → Prop} {V : am_VT} (hV : am_B l RX8 false 2 (am_cdT' tX8_stepOn) (am_rfL rfX8) none Post 36 V) (n : Nat) (res : am_M) (hP : Post none (wX8 res)) (σ : am_M) (l1 : Int32) (h : X8_stepOn_J255 n σ l1 = some res) : V (wX8 σ) 255 [(0, .ref 0), (1, .int l1)] [] := by
  unfold X8_stepOn_J255 at h
  refine hV.run 2 [] (ws' := wX8 σ) (pc' := 260) (ls' := [(0, .ref 0), (1, .int l1)]) (st' := [.int 1]) (ps := []) rfl trivial ?_
  exact p_X8_stepOn_J260 hV n res hP σ l1 1 h
def X8_stepOn_B0 (n : Nat) (kont0 : am_M → Option am_M) (σ : am_M) : Option am_M := (X8_byteAt σ (σ 0 11)).bind (fun q1 => if q1 = 32 then (X8_stepOn_J26 n kont0 σ) else (X8_byteAt σ (σ 0 11)).bind (fun q3 => if q3 = 10 then (X8_stepOn_J26 n kont0 σ) else (X8_byteAt (sC σ 0 (am_u (am_u (σ 0) 14 0) 16 (σ 0 11))) (σ 0 11)).bind (fun q5 => if q5 = (-1) then (X8_stepOn_J279 n (sC σ 0 (am_u (am_u (am_u (σ 0) 13 0) 14 0) 16 (σ 0 11)))) else (if (X8_isLetter q5) = true then (X8_stepOn_L81 n n (sC σ 0 (am_u (am_u (σ 0) 14 0) 16 (σ 0 11)))) else (if (X8_isDigit q5) = true then (X8_stepOn_L128 n n (sC σ 0 (am_u (am_u (am_u (σ 0) 14 0) 15 0) 16 (σ 0 11)))) else (if q5 = 59 then (X8_stepOn_J255 n (sC σ 0 (am_u (am_u (am_u (σ 0) 11 ((σ 0 11) + 1)) 14 0) 16 (σ 0 11))) q5) else (if q5 = 40 then (X8_stepOn_J255 n (sC σ 0 (am_u (am_u (am_u (σ 0) 11 ((σ 0 11) + 1)) 14 0) 16 (σ 0 11))) q5) else (if q5 = 41 then (X8_stepOn_J255 n (sC σ 0 (am_u (am_u (am_u (σ 0) 11 ((σ 0 11) + 1)) 14 0) 16 (σ 0 11))) q5) else (if q5 = 43 then (X8_stepOn_J255 n (sC σ 0 (am_u (am_u (am_u (σ 0) 11 ((σ 0 11) + 1)) 14 0) 16 (σ 0 11))) q5) else (if q5 = 45 then (X8_stepOn_J255 n (sC σ 0 (am_u (am_u (am_u (σ 0) 11 ((σ 0 11) + 1)) 14 0) 16 (σ 0 11))) q5) else (if q5 = 42 then (X8_stepOn_J255 n (sC σ 0 (am_u (am_u (am_u (σ 0) 11 ((σ 0 11) + 1)) 14 0) 16 (σ 0 11))) q5) else (if q5 = 47 then (X8_stepOn_J255 n (sC σ 0 (am_u (am_u (am_u (σ 0) 11 ((σ 0 11) + 1)) 14 0) 16 (σ 0 11))) q5) else (if q5 = 60 then (X8_stepOn_J255 n (sC σ 0 (am_u (am_u (am_u (σ 0) 11 ((σ 0 11) + 1)) 14 0) 16 (σ 0 11))) q5) else (if q5 = 61 then (X8_stepOn_J255 n (sC σ 0 (am_u (am_u (am_u (σ 0) 11 ((σ 0 11) + 1)) 14 0) 16 (σ 0 11))) q5) else (X8_stepOn_J260 n (sC σ 0 (am_u (am_u (am_u (σ 0) 11 ((σ 0 11) + 1)) 14 0) 16 (σ 0 11))) q5 0)))))))))))))))
def X8_stepOn_L0 (n : Nat) : Nat → am_M → Option am_M
 | 0 => fun _ => none
 | k + 1 => fun σ => X8_stepOn_B0 n (X8_stepOn_L0 n k) σ
set_option maxRecDepth 100000 in
set_option maxHeartbeats 4000000 in
theorem p_X8_stepOn_B0 {l : Launch} {Post : Option Value → am_W → Prop} {V : am_VT} (hV : am_B l RX8 false 2 (am_cdT' tX8_stepOn) (am_rfL rfX8) none Post 36 V) (n : Nat) (res : am_M) (hP : Post none (wX8 res)) (kont0 : am_M → Option am_M) (hk0 : ∀ (σ : am_M), kont0 σ = some res → V (wX8 σ) 0 [(0, .ref 0)] []) (σ : am_M) (h : X8_stepOn_B0 n kont0 σ = some res) : V (wX8 σ) 0 [(0, .ref 0)] [] := by
  unfold X8_stepOn_B0 at h
  refine hV.run 3 [] (ws' := wX8 σ) (pc' := 5) (ls' := [(0, .ref 0)]) (st' := [.int (σ 0 11), .ref 0]) (ps := []) rfl trivial ?_
  obtain ⟨q1, hq1, h⟩ := am_bind h
  refine hV.cOi (as := [.int (σ 0 11)]) (rest := []) (st := [.int (σ 0 11), .ref 0]) (ws2 := wX8 σ) (pc2 := 8) kX8_187 (c_X8_byteAt l σ (σ 0 11) q1 hq1) rfl rfl rfl rfl rfl rfl rfl rfl rfl ?_
  by_cases c2 : q1 = 32
  · rw [if_pos c2] at h
    refine hV.run 2 [1] (ws' := wX8 σ) (pc' := 26) (ls' := [(0, .ref 0)]) (st' := []) (ps := [q1 = 32]) rfl ⟨c2, trivial⟩ ?_
    exact p_X8_stepOn_J26 hV n res hP kont0 hk0 σ h
  · rw [if_neg c2] at h
    refine hV.run 5 [0] (ws' := wX8 σ) (pc' := 18) (ls' := [(0, .ref 0)]) (st' := [.int (σ 0 11), .ref 0]) (ps := [¬ q1 = 32]) rfl ⟨c2, trivial⟩ ?_
    obtain ⟨q3, hq3, h⟩ := am_bind h
    refine hV.cOi (as := [.int (σ 0 11)]) (rest := []) (st := [.int (σ 0 11), .ref 0]) (ws2 := wX8 σ) (pc2 := 21) kX8_187 (c_X8_byteAt l σ (σ 0 11) q3 hq3) rfl rfl rfl rfl rfl rfl rfl rfl rfl ?_
    by_cases c4 : q3 = 10
    · rw [if_pos c4] at h
      refine hV.run 2 [0] (ws' := wX8 σ) (pc' := 26) (ls' := [(0, .ref 0)]) (st' := []) (ps := [q3 = 10]) rfl ⟨c4, trivial⟩ ?_
      exact p_X8_stepOn_J26 hV n res hP kont0 hk0 σ h
    · rw [if_neg c4] at h
      refine hV.run 12 [1] (ws' := wX8 (sC σ 0 (am_u (am_u (σ 0) 14 0) 16 (σ 0 11)))) (pc' := 57) (ls' := [(0, .ref 0)]) (st' := [.int (σ 0 11), .ref 0]) (ps := [¬ q3 = 10]) rfl ⟨c4, trivial⟩ ?_
      obtain ⟨q5, hq5, h⟩ := am_bind h
      refine hV.cOi (as := [.int (σ 0 11)]) (rest := []) (st := [.int (σ 0 11), .ref 0]) (ws2 := wX8 (sC σ 0 (am_u (am_u (σ 0) 14 0) 16 (σ 0 11)))) (pc2 := 60) kX8_187 (c_X8_byteAt l (sC σ 0 (am_u (am_u (σ 0) 14 0) 16 (σ 0 11))) (σ 0 11) q5 hq5) rfl rfl rfl rfl rfl rfl rfl rfl rfl ?_
      by_cases c6 : q5 = (-1)
      · rw [if_pos c6] at h
        refine hV.run 8 [0] (ws' := wX8 (sC σ 0 (am_u (am_u (am_u (σ 0) 13 0) 14 0) 16 (σ 0 11)))) (pc' := 279) (ls' := [(1, .int q5), (0, .ref 0)]) (st' := []) (ps := [q5 = (-1)]) rfl ⟨c6, trivial⟩ ?_
        refine hV.pick [1] (ls' := [(0, .ref 0)]) rfl ?_
        exact p_X8_stepOn_J279 hV n res hP (sC σ 0 (am_u (am_u (am_u (σ 0) 13 0) 14 0) 16 (σ 0 11))) h
      · rw [if_neg c6] at h
        refine hV.run 5 [1] (ws' := wX8 (sC σ 0 (am_u (am_u (σ 0) 14 0) 16 (σ 0 11)))) (pc' := 75) (ls' := [(1, .int q5), (0, .ref 0)]) (st' := [.int q5]) (ps := [¬ q5 = (-1)]) rfl ⟨c6, trivial⟩ ?_
        refine hV.cSi (as := [.int q5]) (js := []) (rest := []) (st := [.int q5]) (ws2 := wX8 (sC σ 0 (am_u (am_u (σ 0) 14 0) 16 (σ 0 11)))) (pc2 := 78) kX8_200 (c_X8_isLetter l q5) rfl rfl rfl rfl rfl rfl rfl rfl rfl rfl ?_
        by_cases c7 : (X8_isLetter q5) = true
        · rw [if_pos c7] at h
          refine hV.run 1 [0] (ws' := wX8 (sC σ 0 (am_u (am_u (σ 0) 14 0) 16 (σ 0 11)))) (pc' := 81) (ls' := [(1, .int q5), (0, .ref 0)]) (st' := []) (ps := [¬ (b2i (X8_isLetter q5)) = 0]) rfl ⟨(b2i_t c7), trivial⟩ ?_
          refine hV.pick [1] (ls' := [(0, .ref 0)]) rfl ?_
          exact p_X8_stepOn_L81 hV n res hP n (sC σ 0 (am_u (am_u (σ 0) 14 0) 16 (σ 0 11))) h
        · rw [if_neg c7] at h
          refine hV.run 2 [1] (ws' := wX8 (sC σ 0 (am_u (am_u (σ 0) 14 0) 16 (σ 0 11)))) (pc' := 117) (ls' := [(1, .int q5), (0, .ref 0)]) (st' := [.int q5]) (ps := [(b2i (X8_isLetter q5)) = 0]) rfl ⟨(b2i_f c7), trivial⟩ ?_
          refine hV.cSi (as := [.int q5]) (js := []) (rest := []) (st := [.int q5]) (ws2 := wX8 (sC σ 0 (am_u (am_u (σ 0) 14 0) 16 (σ 0 11)))) (pc2 := 120) kX8_204 (c_X8_isDigit l q5) rfl rfl rfl rfl rfl rfl rfl rfl rfl rfl ?_
          by_cases c8 : (X8_isDigit q5) = true
          · rw [if_pos c8] at h
            refine hV.run 4 [0] (ws' := wX8 (sC σ 0 (am_u (am_u (am_u (σ 0) 14 0) 15 0) 16 (σ 0 11)))) (pc' := 128) (ls' := [(1, .int q5), (0, .ref 0)]) (st' := []) (ps := [¬ (b2i (X8_isDigit q5)) = 0]) rfl ⟨(b2i_t c8), trivial⟩ ?_
            refine hV.pick [1] (ls' := [(0, .ref 0)]) rfl ?_
            exact p_X8_stepOn_L128 hV n res hP n (sC σ 0 (am_u (am_u (am_u (σ 0) 14 0) 15 0) 16 (σ 0 11))) h
          · rw [if_neg c8] at h
            by_cases c9 : q5 = 59
            · rw [if_pos c9] at h
              refine hV.run 10 [1, 1] (ws' := wX8 (sC σ 0 (am_u (am_u (am_u (σ 0) 11 ((σ 0 11) + 1)) 14 0) 16 (σ 0 11)))) (pc' := 255) (ls' := [(1, .int q5), (0, .ref 0)]) (st' := []) (ps := [(b2i (X8_isDigit q5)) = 0, q5 = 59]) rfl ⟨(b2i_f c8), c9, trivial⟩ ?_
              refine hV.pick [1, 0] (ls' := [(0, .ref 0), (1, .int q5)]) rfl ?_
              exact p_X8_stepOn_J255 hV n res hP (sC σ 0 (am_u (am_u (am_u (σ 0) 11 ((σ 0 11) + 1)) 14 0) 16 (σ 0 11))) q5 h
            · rw [if_neg c9] at h
              by_cases c10 : q5 = 40
              · rw [if_pos c10] at h
                refine hV.run 13 [1, 0, 1] (ws' := wX8 (sC σ 0 (am_u (am_u (am_u (σ 0) 11 ((σ 0 11) + 1)) 14 0) 16 (σ 0 11)))) (pc' := 255) (ls' := [(1, .int q5), (0, .ref 0)]) (st' := []) (ps := [(b2i (X8_isDigit q5)) = 0, ¬ q5 = 59, q5 = 40]) rfl ⟨(b2i_f c8), c9, c10, trivial⟩ ?_
                refine hV.pick [1, 0] (ls' := [(0, .ref 0), (1, .int q5)]) rfl ?_
                exact p_X8_stepOn_J255 hV n res hP (sC σ 0 (am_u (am_u (am_u (σ 0) 11 ((σ 0 11) + 1)) 14 0) 16 (σ 0 11))) q5 h
              · rw [if_neg c10] at h
                by_cases c11 : q5 = 41
                · rw [if_pos c11] at h
                  refine hV.run 16 [1, 0, 0, 1] (ws' := wX8 (sC σ 0 (am_u (am_u (am_u (σ 0) 11 ((σ 0 11) + 1)) 14 0) 16 (σ 0 11)))) (pc' := 255) (ls' := [(1, .int q5), (0, .ref 0)]) (st' := []) (ps := [(b2i (X8_isDigit q5)) = 0, ¬ q5 = 59, ¬ q5 = 40, q5 = 41]) rfl ⟨(b2i_f c8), c9, c10, c11, trivial⟩ ?_
                  refine hV.pick [1, 0] (ls' := [(0, .ref 0), (1, .int q5)]) rfl ?_
                  exact p_X8_stepOn_J255 hV n res hP (sC σ 0 (am_u (am_u (am_u (σ 0) 11 ((σ 0 11) + 1)) 14 0) 16 (σ 0 11))) q5 h
                · rw [if_neg c11] at h
                  by_cases c12 : q5 = 43
                  · rw [if_pos c12] at h
                    refine hV.run 19 [1, 0, 0, 0, 1] (ws' := wX8 (sC σ 0 (am_u (am_u (am_u (σ 0) 11 ((σ 0 11) + 1)) 14 0) 16 (σ 0 11)))) (pc' := 255) (ls' := [(1, .int q5), (0, .ref 0)]) (st' := []) (ps := [(b2i (X8_isDigit q5)) = 0, ¬ q5 = 59, ¬ q5 = 40, ¬ q5 = 41, q5 = 43]) rfl ⟨(b2i_f c8), c9, c10, c11, c12, trivial⟩ ?_
                    refine hV.pick [1, 0] (ls' := [(0, .ref 0), (1, .int q5)]) rfl ?_
                    exact p_X8_stepOn_J255 hV n res hP (sC σ 0 (am_u (am_u (am_u (σ 0) 11 ((σ 0 11) + 1)) 14 0) 16 (σ 0 11))) q5 h
                  · rw [if_neg c12] at h
                    by_cases c13 : q5 = 45
                    · rw [if_pos c13] at h
                      refine hV.run 22 [1, 0, 0, 0, 0, 1] (ws' := wX8 (sC σ 0 (am_u (am_u (am_u (σ 0) 11 ((σ 0 11) + 1)) 14 0) 16 (σ 0 11)))) (pc' := 255) (ls' := [(1, .int q5), (0, .ref 0)]) (st' := []) (ps := [(b2i (X8_isDigit q5)) = 0, ¬ q5 = 59, ¬ q5 = 40, ¬ q5 = 41, ¬ q5 = 43, q5 = 45]) rfl ⟨(b2i_f c8), c9, c10, c11, c12, c13, trivial⟩ ?_
                      refine hV.pick [1, 0] (ls' := [(0, .ref 0), (1, .int q5)]) rfl ?_
                      exact p_X8_stepOn_J255 hV n res hP (sC σ 0 (am_u (am_u (am_u (σ 0) 11 ((σ 0 11) + 1)) 14 0) 16 (σ 0 11))) q5 h
                    · rw [if_neg c13] at h
                      by_cases c14 : q5 = 42
                      · rw [if_pos c14] at h
                        refine hV.run 25 [1, 0, 0, 0, 0, 0, 1] (ws' := wX8 (sC σ 0 (am_u (am_u (am_u (σ 0) 11 ((σ 0 11) + 1)) 14 0) 16 (σ 0 11)))) (pc' := 255) (ls' := [(1, .int q5), (0, .ref 0)]) (st' := []) (ps := [(b2i (X8_isDigit q5)) = 0, ¬ q5 = 59, ¬ q5 = 40, ¬ q5 = 41, ¬ q5 = 43, ¬ q5 = 45, q5 = 42]) rfl ⟨(b2i_f c8), c9, c10, c11, c12, c13, c14, trivial⟩ ?_
                        refine hV.pick [1, 0] (ls' := [(0, .ref 0), (1, .int q5)]) rfl ?_
                        exact p_X8_stepOn_J255 hV n res hP (sC σ 0 (am_u (am_u (am_u (σ 0) 11 ((σ 0 11) + 1)) 14 0) 16 (σ 0 11))) q5 h
                      · rw [if_neg c14] at h
                        by_cases c15 : q5 = 47
                        · rw [if_pos c15] at h
                          refine hV.run 28 [1, 0, 0, 0, 0, 0, 0, 1] (ws' := wX8 (sC σ 0 (am_u (am_u (am_u (σ 0) 11 ((σ 0 11) + 1)) 14 0) 16 (σ 0 11)))) (pc' := 255) (ls' := [(1, .int q5), (0, .ref 0)]) (st' := []) (ps := [(b2i (X8_isDigit q5)) = 0, ¬ q5 = 59, ¬ q5 = 40, ¬ q5 = 41, ¬ q5 = 43, ¬ q5 = 45, ¬ q5 = 42, q5 = 47]) rfl ⟨(b2i_f c8), c9, c10, c11, c12, c13, c14, c15, trivial⟩ ?_
                          refine hV.pick [1, 0] (ls' := [(0, .ref 0), (1, .int q5)]) rfl ?_
                          exact p_X8_stepOn_J255 hV n res hP (sC σ 0 (am_u (am_u (am_u (σ 0) 11 ((σ 0 11) + 1)) 14 0) 16 (σ 0 11))) q5 h
                        · rw [if_neg c15] at h
                          by_cases c16 : q5 = 60
                          · rw [if_pos c16] at h
                            refine hV.run 31 [1, 0, 0, 0, 0, 0, 0, 0, 1] (ws' := wX8 (sC σ 0 (am_u (am_u (am_u (σ 0) 11 ((σ 0 11) + 1)) 14 0) 16 (σ 0 11)))) (pc' := 255) (ls' := [(1, .int q5), (0, .ref 0)]) (st' := []) (ps := [(b2i (X8_isDigit q5)) = 0, ¬ q5 = 59, ¬ q5 = 40, ¬ q5 = 41, ¬ q5 = 43, ¬ q5 = 45, ¬ q5 = 42, ¬ q5 = 47, q5 = 60]) rfl ⟨(b2i_f c8), c9, c10, c11, c12, c13, c14, c15, c16, trivial⟩ ?_
                            refine hV.pick [1, 0] (ls' := [(0, .ref 0), (1, .int q5)]) rfl ?_
                            exact p_X8_stepOn_J255 hV n res hP (sC σ 0 (am_u (am_u (am_u (σ 0) 11 ((σ 0 11) + 1)) 14 0) 16 (σ 0 11))) q5 h
                          · rw [if_neg c16] at h
                            by_cases c17 : q5 = 61
                            · rw [if_pos c17] at h
                              refine hV.run 34 [1, 0, 0, 0, 0, 0, 0, 0, 0, 0] (ws' := wX8 (sC σ 0 (am_u (am_u (am_u (σ 0) 11 ((σ 0 11) + 1)) 14 0) 16 (σ 0 11)))) (pc' := 255) (ls' := [(1, .int q5), (0, .ref 0)]) (st' := []) (ps := [(b2i (X8_isDigit q5)) = 0, ¬ q5 = 59, ¬ q5 = 40, ¬ q5 = 41, ¬ q5 = 43, ¬ q5 = 45, ¬ q5 = 42, ¬ q5 = 47, ¬ q5 = 60, q5 = 61]) rfl ⟨(b2i_f c8), c9, c10, c11, c12, c13, c14, c15, c16, c17, trivial⟩ ?_
                              refine hV.pick [1, 0] (ls' := [(0, .ref 0), (1, .int q5)]) rfl ?_
                              exact p_X8_stepOn_J255 hV n res hP (sC σ 0 (am_u (am_u (am_u (σ 0) 11 ((σ 0 11) + 1)) 14 0) 16 (σ 0 11))) q5 h
                            · rw [if_neg c17] at h
                              refine hV.run 35 [1, 0, 0, 0, 0, 0, 0, 0, 0, 1] (ws' := wX8 (sC σ 0 (am_u (am_u (am_u (σ 0) 11 ((σ 0 11) + 1)) 14 0) 16 (σ 0 11)))) (pc' := 260) (ls' := [(1, .int q5), (0, .ref 0)]) (st' := [.int 0]) (ps := [(b2i (X8_isDigit q5)) = 0, ¬ q5 = 59, ¬ q5 = 40, ¬ q5 = 41, ¬ q5 = 43, ¬ q5 = 45, ¬ q5 = 42, ¬ q5 = 47, ¬ q5 = 60, ¬ q5 = 61]) rfl ⟨(b2i_f c8), c9, c10, c11, c12, c13, c14, c15, c16, c17, trivial⟩ ?_
                              refine hV.pick [1, 0] (ls' := [(0, .ref 0), (1, .int q5)]) rfl ?_
                              exact p_X8_stepOn_J260 hV n res hP (sC σ 0 (am_u (am_u (am_u (σ 0) 11 ((σ 0 11) + 1)) 14 0) 16 (σ 0 11))) q5 0 h
theorem p_X8_stepOn_L0 {l : Launch} {Post : Option Value → am_W → Prop} {V : am_VT} (hV : am_B l RX8 false 2 (am_cdT' tX8_stepOn) (am_rfL rfX8) none Post 36 V) (n : Nat) (res : am_M) (hP : Post none (wX8 res)) : ∀ (k : Nat) (σ : am_M) (h : X8_stepOn_L0 n k σ = some res), V (wX8 σ) 0 [(0, .ref 0)] [] := by
  intro k
  induction k with
  | zero => intro σ h; cases h
  | succ k ih => intro σ h; exact p_X8_stepOn_B0 hV n res hP _ ih σ h
def X8_stepOn (n : Nat) (σ : am_M) : Option am_M := X8_stepOn_L0 n n σ
set_option maxRecDepth 100000 in
set_option maxHeartbeats 4000000 in
theorem c_X8_stepOn (l : Launch) (n : Nat) (σ : am_M) (res : am_M) (h : X8_stepOn n σ = some res) : am_Con l yX8_stepOn cX8_stepOn 3 none 2 [.ref 0] (wX8 σ) (fun (r : Option Value) (w : am_W) => r = none ∧ w = (wX8 res)) := by
  refine am_metn (n0 := 36) (own := RX8) (cd := am_cdT' tX8_stepOn) (rf := am_rfL rfX8) (ini := false) rfl (by decide +kernel) rfl (by decide) dX8_stepOn rfX8_ok (Nat.le_of_ble_eq_true rfl) ?_
  intro V hV
  have hP : (fun (r : Option Value) (w : am_W) => r = none ∧ w = (wX8 res)) none (wX8 res) := ⟨rfl, rfl⟩
  show V (wX8 σ) 0 [(0, .ref 0)] []
  unfold X8_stepOn at h
  exact p_X8_stepOn_L0 hV n res hP n σ h

def X8_wrong (σ : am_M) (a1 : Int32) : Option am_M := if (σ 0 18) = 0 then (some (sC σ 0 (am_u (am_u (σ 0) 18 a1) 19 (σ 0 16)))) else (some σ)
set_option maxRecDepth 100000 in
set_option maxHeartbeats 4000000 in
theorem c_X8_wrong (l : Launch) (σ : am_M) (a1 : Int32) (res : am_M) (h : X8_wrong σ a1 = some res) : am_Con l yX8_wrong cX8_wrong 2 none 1 [.ref 0, .int a1] (wX8 σ) (fun (r : Option Value) (w : am_W) => r = none ∧ w = (wX8 res)) := by
  refine am_metn (n0 := 36) (own := RX8) (cd := am_cdT' tX8_wrong) (rf := am_rfL rfX8) (ini := false) rfl (by decide +kernel) rfl (by decide) dX8_wrong rfX8_ok (Nat.le_of_ble_eq_true rfl) ?_
  intro V hV
  have hP : (fun (r : Option Value) (w : am_W) => r = none ∧ w = (wX8 res)) none (wX8 res) := ⟨rfl, rfl⟩
  show V (wX8 σ) 0 [(0, .ref 0), (1, .int a1)] []
  unfold X8_wrong at h
  by_cases c1 : (σ 0 18) = 0
  · rw [if_pos c1] at h
    refine hV.run 10 [1] (ws' := wX8 (sC σ 0 (am_u (am_u (σ 0) 18 a1) 19 (σ 0 16)))) (pc' := 21) (ls' := [(0, .ref 0), (1, .int a1)]) (st' := []) (ps := [(σ 0 18) = 0]) rfl ⟨c1, trivial⟩ ?_
    cases h
    exact hV.rv rfl rfl rfl hP
  · rw [if_neg c1] at h
    refine hV.run 3 [0] (ws' := wX8 σ) (pc' := 7) (ls' := [(0, .ref 0), (1, .int a1)]) (st' := []) (ps := [¬ (σ 0 18) = 0]) rfl ⟨c1, trivial⟩ ?_
    cases h
    exact hV.rv rfl rfl rfl hP

def X8_isSign (σ : am_M) (a1 : Int32) : Bool := if (σ 0 18) = 0 then (if (σ 0 13) = 3 then (if (σ 0 14) = a1 then (true) else (false)) else (false)) else (false)
set_option maxRecDepth 100000 in
set_option maxHeartbeats 4000000 in
theorem c_X8_isSign (l : Launch) (σ : am_M) (a1 : Int32) : am_Con l yX8_isSign cX8_isSign 2 (some .boolean) 1 [.ref 0, .int a1] (wX8 σ) (fun (r : Option Value) (w : am_W) => r = (some (.int (b2i (X8_isSign σ a1)))) ∧ w = (wX8 σ)) := by
  obtain ⟨res, h⟩ : ∃ res, (X8_isSign σ a1) = res := ⟨_, rfl⟩
  rw [h]
  refine am_metn (n0 := 36) (own := RX8) (cd := am_cdT' tX8_isSign) (rf := am_rfL rfX8) (ini := false) rfl (by decide +kernel) rfl (by decide) dX8_isSign rfX8_ok (Nat.le_of_ble_eq_true rfl) ?_
  intro V hV
  have hP : (fun (r : Option Value) (w : am_W) => r = (some (.int (b2i res))) ∧ w = (wX8 σ)) (some (.int (b2i res))) (wX8 σ) := ⟨rfl, rfl⟩
  show V (wX8 σ) 0 [(0, .ref 0), (1, .int a1)] []
  unfold X8_isSign at h
  by_cases c1 : (σ 0 18) = 0
  · rw [if_pos c1] at h
    by_cases c2 : (σ 0 13) = 3
    · rw [if_pos c2] at h
      by_cases c3 : (σ 0 14) = a1
      · rw [if_pos c3] at h
        refine hV.run 13 [0, 0, 0] (ws' := wX8 σ) (pc' := 28) (ls' := [(0, .ref 0), (1, .int a1)]) (st' := [.int 1]) (ps := [(σ 0 18) = 0, (σ 0 13) = 3, (σ 0 14) = a1]) rfl ⟨c1, c2, c3, trivial⟩ ?_
        subst h
        exact hV.rz rfl rfl rfl (Or.inr rfl) hP
      · rw [if_neg c3] at h
        refine hV.run 12 [0, 0, 1] (ws' := wX8 σ) (pc' := 28) (ls' := [(0, .ref 0), (1, .int a1)]) (st' := [.int 0]) (ps := [(σ 0 18) = 0, (σ 0 13) = 3, ¬ (σ 0 14) = a1]) rfl ⟨c1, c2, c3, trivial⟩ ?_
        subst h
        exact hV.rz rfl rfl rfl (Or.inl rfl) hP
    · rw [if_neg c2] at h
      refine hV.run 8 [0, 1] (ws' := wX8 σ) (pc' := 28) (ls' := [(0, .ref 0), (1, .int a1)]) (st' := [.int 0]) (ps := [(σ 0 18) = 0, ¬ (σ 0 13) = 3]) rfl ⟨c1, c2, trivial⟩ ?_
      subst h
      exact hV.rz rfl rfl rfl (Or.inl rfl) hP
  · rw [if_neg c1] at h
    refine hV.run 4 [1] (ws' := wX8 σ) (pc' := 28) (ls' := [(0, .ref 0), (1, .int a1)]) (st' := [.int 0]) (ps := [¬ (σ 0 18) = 0]) rfl ⟨c1, trivial⟩ ?_
    subst h
    exact hV.rz rfl rfl rfl (Or.inl rfl) hP

def X8_is_J75 (n : Nat) (σ : am_M) (kont39 : Nat → Int32 → Int32 → Option Bool) (l1 : Nat) (l3 : Int32) (s0 : Int32) : Option Bool := kont39 l1 s0 (l3 + 1)
set_option maxRecDepth 100000 in
set_option maxHeartbeats 4000000 in
theorem p_X8_is_J75 {l : Launch} {Post : Option Value → am_W → Prop} {V : am_VT} (hV : am_B l RX8 false 5 (am_cdT' tX8_is) (am_rfL rfX8) (some .boolean) Post 36 V) (n : Nat) (σ : am_M) (res : Bool) (hP : Post (some (.int (b2i res))) (wX8 σ)) (kont39 : Nat → Int32 → Int32 → Option Bool) (hk39 : ∀ (l1 : Nat) (l2 : Int32) (l3 : Int32), kont39 l1 l2 l3 = some res → V (wX8 σ) 39 [(0, .ref 0), (1, .retAddr l1), (2, .int l2), (3, .int l3)] []) (l1 : Nat) (l3 : Int32) (s0 : Int32) (h : X8_is_J75 n σ kont39 l1 l3 s0 = some res) : V (wX8 σ) 75 [(0, .ref 0), (1, .retAddr l1), (3, .int l3)] [.int s0] := by
  unfold X8_is_J75 at h
  refine hV.run 3 [] (ws' := wX8 σ) (pc' := 39) (ls' := [(3, .int (l3 + 1)), (2, .int s0), (0, .ref 0), (1, .retAddr l1)]) (st' := []) (ps := []) rfl trivial ?_
  refine hV.pick [2, 3, 1, 0] (ls' := [(0, .ref 0), (1, .retAddr l1), (2, .int s0), (3, .int (l3 + 1))]) rfl ?_
  exact hk39 l1 s0 (l3 + 1) h
def X8_is_B39 (n : Nat) (σ : am_M) (kont39 : Nat → Int32 → Int32 → Option Bool) (l1 : Nat) (l2 : Int32) (l3 : Int32) : Option Bool := if l2 = 0 then (if l2 = 0 then (some false) else (if l2 = 1 then (some true) else none)) else (if am_sn ≤ l1 then none else (if (am_slen l1) ≤ l3 then (if l2 = 0 then (some false) else (if l2 = 1 then (some true) else none)) else (if am_sn ≤ l1 then none else (if l3 < 0 then none else (if ¬ l3 < am_slen l1 then none else (if ((σ 0 16) + l3) < 0 ∨ 700 ≤ ((σ 0 16) + l3).toNatClampNeg then none else (if (am_sch l1 l3) = (σ 3 ((σ 0 16) + l3).toNatClampNeg) then (X8_is_J75 n σ kont39 l1 l3 1) else (X8_is_J75 n σ kont39 l1 l3 0))))))))
def X8_is_L39 (n : Nat) (σ : am_M) : Nat → Nat → Int32 → Int32 → Option Bool
 | 0 => fun _ _ _ => none
 | k + 1 => fun l1 l2 l3 => X8_is_B39 n σ (X8_is_L39 n σ k) l1 l2 l3
set_option maxRecDepth 100000 in
set_option maxHeartbeats 4000000 in
theorem p_X8_is_B39 {l : Launch} {Post : Option Value → am_W → Prop} {V : am_VT} (hV : am_B l RX8 false 5 (am_cdT' tX8_is) (am_rfL rfX8) (some .boolean) Post 36 V) (n : Nat) (σ : am_M) (res : Bool) (hP : Post (some (.int (b2i res))) (wX8 σ)) (kont39 : Nat → Int32 → Int32 → Option Bool) (hk39 : ∀ (l1 : Nat) (l2 : Int32) (l3 : Int32), kont39 l1 l2 l3 = some res → V (wX8 σ) 39 [(0, .ref 0), (1, .retAddr l1), (2, .int l2), (3, .int l3)] []) (l1 : Nat) (l2 : Int32) (l3 : Int32) (h : X8_is_B39 n σ kont39 l1 l2 l3 = some res) : V (wX8 σ) 39 [(0, .ref 0), (1, .retAddr l1), (2, .int l2), (3, .int l3)] [] := by
  unfold X8_is_B39 at h
  by_cases c1 : l2 = 0
  · rw [if_pos c1] at h
    refine hV.run 3 [1] (ws' := wX8 σ) (pc' := 83) (ls' := [(0, .ref 0), (1, .retAddr l1), (2, .int l2), (3, .int l3)]) (st' := [.int l2]) (ps := [l2 = 0]) rfl ⟨c1, trivial⟩ ?_
    by_cases c2 : l2 = 0
    · rw [if_pos c2] at h
      rw [c2]
      cases h
      exact hV.rz rfl rfl rfl (Or.inl rfl) hP
    · rw [if_neg c2] at h
      by_cases c3 : l2 = 1
      · rw [if_pos c3] at h
        rw [c3]
        cases h
        exact hV.rz rfl rfl rfl (Or.inr rfl) hP
      · rw [if_neg c3] at h; cases h
  · rw [if_neg c1] at h
    refine hV.run 4 [0] (ws' := wX8 σ) (pc' := 45) (ls' := [(0, .ref 0), (1, .retAddr l1), (2, .int l2), (3, .int l3)]) (st' := [.retAddr l1, .int l3]) (ps := [¬ l2 = 0]) rfl ⟨c1, trivial⟩ ?_
    by_cases g4 : am_sn ≤ l1
    · rw [if_pos g4] at h; cases h
    rw [if_neg g4] at h
    refine hV.cXi (as := []) (rest := [.int l3]) (st := [.retAddr l1, .int l3]) (pc2 := 48) kX8_226 (c_slen l l1 (Nat.not_le.mp g4)) rfl rfl rfl rfl rfl rfl (Nat.not_le.mp g4) rfl rfl rfl ?_
    by_cases c5 : (am_slen l1) ≤ l3
    · rw [if_pos c5] at h
      refine hV.run 2 [1] (ws' := wX8 σ) (pc' := 83) (ls' := [(0, .ref 0), (1, .retAddr l1), (2, .int l2), (3, .int l3)]) (st' := [.int l2]) (ps := [(am_slen l1) ≤ l3]) rfl ⟨c5, trivial⟩ ?_
      by_cases c6 : l2 = 0
      · rw [if_pos c6] at h
        rw [c6]
        cases h
        exact hV.rz rfl rfl rfl (Or.inl rfl) hP
      · rw [if_neg c6] at h
        by_cases c7 : l2 = 1
        · rw [if_pos c7] at h
          rw [c7]
          cases h
          exact hV.rz rfl rfl rfl (Or.inr rfl) hP
        · rw [if_neg c7] at h; cases h
    · rw [if_neg c5] at h
      refine hV.run 3 [0] (ws' := wX8 σ) (pc' := 53) (ls' := [(0, .ref 0), (1, .retAddr l1), (2, .int l2), (3, .int l3)]) (st' := [.int l3, .retAddr l1]) (ps := [¬ (am_slen l1) ≤ l3]) rfl ⟨c5, trivial⟩ ?_
      by_cases g8 : am_sn ≤ l1
      · rw [if_pos g8] at h; cases h
      rw [if_neg g8] at h
      by_cases g9 : l3 < 0
      · rw [if_pos g9] at h; cases h
      rw [if_neg g9] at h
      by_cases g10 : ¬ l3 < am_slen l1
      · rw [if_pos g10] at h; cases h
      rw [if_neg g10] at h
      refine hV.cXi (as := [.int l3]) (rest := []) (st := [.int l3, .retAddr l1]) (pc2 := 56) kX8_230 (c_sch l l1 (Nat.not_le.mp g8) l3 g9 (Classical.not_not.mp g10)) rfl rfl rfl rfl rfl rfl (Nat.not_le.mp g8) rfl rfl rfl ?_
      by_cases g11 : ((σ 0 16) + l3) < 0 ∨ 700 ≤ ((σ 0 16) + l3).toNatClampNeg
      · rw [if_pos g11] at h; cases h
      rw [if_neg g11] at h
      by_cases c12 : (am_sch l1 l3) = (σ 3 ((σ 0 16) + l3).toNatClampNeg)
      · rw [if_pos c12] at h
        refine hV.run 10 [0] (ws' := wX8 σ) (pc' := 75) (ls' := [(0, .ref 0), (1, .retAddr l1), (2, .int l2), (3, .int l3)]) (st' := [.int 1]) (ps := [vp_in ((σ 0 16) + l3) 700, (am_sch l1 l3) = (σ 3 ((σ 0 16) + l3).toNatClampNeg)]) rfl ⟨g11, c12, trivial⟩ ?_
        refine hV.pick [0, 1, 3] (ls' := [(0, .ref 0), (1, .retAddr l1), (3, .int l3)]) rfl ?_
        exact p_X8_is_J75 hV n σ res hP kont39 hk39 l1 l3 1 h
      · rw [if_neg c12] at h
        refine hV.run 9 [1] (ws' := wX8 σ) (pc' := 75) (ls' := [(0, .ref 0), (1, .retAddr l1), (2, .int l2), (3, .int l3)]) (st' := [.int 0]) (ps := [vp_in ((σ 0 16) + l3) 700, ¬ (am_sch l1 l3) = (σ 3 ((σ 0 16) + l3).toNatClampNeg)]) rfl ⟨g11, c12, trivial⟩ ?_
        refine hV.pick [0, 1, 3] (ls' := [(0, .ref 0), (1, .retAddr l1), (3, .int l3)]) rfl ?_
        exact p_X8_is_J75 hV n σ res hP kont39 hk39 l1 l3 0 h
theorem p_X8_is_L39 {l : Launch} {Post : Option Value → am_W → Prop} {V : am_VT} (hV : am_B l RX8 false 5 (am_cdT' tX8_is) (am_rfL rfX8) (some .boolean) Post 36 V) (n : Nat) (σ : am_M) (res : Bool) (hP : Post (some (.int (b2i res))) (wX8 σ)) : ∀ (k : Nat) (l1 : Nat) (l2 : Int32) (l3 : Int32) (h : X8_is_L39 n σ k l1 l2 l3 = some res), V (wX8 σ) 39 [(0, .ref 0), (1, .retAddr l1), (2, .int l2), (3, .int l3)] [] := by
  intro k
  induction k with
  | zero => intro l1 l2 l3 h; cases h
  | succ k ih => intro l1 l2 l3 h; exact p_X8_is_B39 hV n σ res hP _ ih l1 l2 l3 h
def X8_is_J36 (n : Nat) (σ : am_M) (l1 : Nat) (s0 : Int32) : Option Bool := X8_is_L39 n σ n l1 s0 0
set_option maxRecDepth 100000 in
set_option maxHeartbeats 4000000 in
theorem p_X8_is_J36 {l : Launch} {Post : Option Value → am_W → Prop} {V : am_VT} (hV : am_B l RX8 false 5 (am_cdT' tX8_is) (am_rfL rfX8) (some .boolean) Post 36 V) (n : Nat) (σ : am_M) (res : Bool) (hP : Post (some (.int (b2i res))) (wX8 σ)) (l1 : Nat) (s0 : Int32) (h : X8_is_J36 n σ l1 s0 = some res) : V (wX8 σ) 36 [(0, .ref 0), (1, .retAddr l1)] [.int s0] := by
  unfold X8_is_J36 at h
  refine hV.run 3 [] (ws' := wX8 σ) (pc' := 39) (ls' := [(3, .int 0), (2, .int s0), (0, .ref 0), (1, .retAddr l1)]) (st' := []) (ps := []) rfl trivial ?_
  refine hV.pick [2, 3, 1, 0] (ls' := [(0, .ref 0), (1, .retAddr l1), (2, .int s0), (3, .int 0)]) rfl ?_
  exact p_X8_is_L39 hV n σ res hP n l1 s0 0 h
def X8_is_J35 (n : Nat) (σ : am_M) (l1 : Nat) : Option Bool := X8_is_J36 n σ l1 0
set_option maxRecDepth 100000 in
set_option maxHeartbeats 4000000 in
theorem p_X8_is_J35 {l : Launch} {Post : Option Value → am_W → Prop} {V : am_VT} (hV : am_B l RX8 false 5 (am_cdT' tX8_is) (am_rfL rfX8) (some .boolean) Post 36 V) (n : Nat) (σ : am_M) (res : Bool) (hP : Post (some (.int (b2i res))) (wX8 σ)) (l1 : Nat) (h : X8_is_J35 n σ l1 = some res) : V (wX8 σ) 35 [(0, .ref 0), (1, .retAddr l1)] [] := by
  unfold X8_is_J35 at h
  refine hV.run 1 [] (ws' := wX8 σ) (pc' := 36) (ls' := [(0, .ref 0), (1, .retAddr l1)]) (st' := [.int 0]) (ps := []) rfl trivial ?_
  exact p_X8_is_J36 hV n σ res hP l1 0 h
def X8_is (n : Nat) (σ : am_M) (a1 : Nat) : Option Bool := if (σ 0 18) = 0 then (if (σ 0 13) = 1 then (if am_sn ≤ a1 then none else (if (am_slen a1) = ((σ 0 17) - (σ 0 16)) then (X8_is_J36 n σ a1 1) else (X8_is_J35 n σ a1))) else (X8_is_J35 n σ a1)) else (X8_is_J35 n σ a1)
set_option maxRecDepth 100000 in
set_option maxHeartbeats 4000000 in
theorem c_X8_is (l : Launch) (n : Nat) (σ : am_M) (a1 : Nat) (res : Bool) (h : X8_is n σ a1 = some res) : am_Con l yX8_is cX8_is 4 (some .boolean) 5 [.ref 0, .retAddr a1] (wX8 σ) (fun (r : Option Value) (w : am_W) => r = (some (.int (b2i res))) ∧ w = (wX8 σ)) := by
  refine am_metn (n0 := 36) (own := RX8) (cd := am_cdT' tX8_is) (rf := am_rfL rfX8) (ini := false) rfl (by decide +kernel) rfl (by decide) dX8_is rfX8_ok (Nat.le_of_ble_eq_true rfl) ?_
  intro V hV
  have hP : (fun (r : Option Value) (w : am_W) => r = (some (.int (b2i res))) ∧ w = (wX8 σ)) (some (.int (b2i res))) (wX8 σ) := ⟨rfl, rfl⟩
  show V (wX8 σ) 0 [(0, .ref 0), (1, .retAddr a1)] []
  unfold X8_is at h
  by_cases c1 : (σ 0 18) = 0
  · rw [if_pos c1] at h
    by_cases c2 : (σ 0 13) = 1
    · rw [if_pos c2] at h
      refine hV.run 8 [0, 0] (ws' := wX8 σ) (pc' := 16) (ls' := [(0, .ref 0), (1, .retAddr a1)]) (st' := [.retAddr a1]) (ps := [(σ 0 18) = 0, (σ 0 13) = 1]) rfl ⟨c1, c2, trivial⟩ ?_
      by_cases g3 : am_sn ≤ a1
      · rw [if_pos g3] at h; cases h
      rw [if_neg g3] at h
      refine hV.cXi (as := []) (rest := []) (st := [.retAddr a1]) (pc2 := 19) kX8_226 (c_slen l a1 (Nat.not_le.mp g3)) rfl rfl rfl rfl rfl rfl (Nat.not_le.mp g3) rfl rfl rfl ?_
      by_cases c4 : (am_slen a1) = ((σ 0 17) - (σ 0 16))
      · rw [if_pos c4] at h
        refine hV.run 8 [0] (ws' := wX8 σ) (pc' := 36) (ls' := [(0, .ref 0), (1, .retAddr a1)]) (st' := [.int 1]) (ps := [(am_slen a1) = ((σ 0 17) - (σ 0 16))]) rfl ⟨c4, trivial⟩ ?_
        exact p_X8_is_J36 hV n σ res hP a1 1 h
      · rw [if_neg c4] at h
        refine hV.run 6 [1] (ws' := wX8 σ) (pc' := 35) (ls' := [(0, .ref 0), (1, .retAddr a1)]) (st' := []) (ps := [¬ (am_slen a1) = ((σ 0 17) - (σ 0 16))]) rfl ⟨c4, trivial⟩ ?_
        exact p_X8_is_J35 hV n σ res hP a1 h
    · rw [if_neg c2] at h
      refine hV.run 7 [0, 1] (ws' := wX8 σ) (pc' := 35) (ls' := [(0, .ref 0), (1, .retAddr a1)]) (st' := []) (ps := [(σ 0 18) = 0, ¬ (σ 0 13) = 1]) rfl ⟨c1, c2, trivial⟩ ?_
      exact p_X8_is_J35 hV n σ res hP a1 h
  · rw [if_neg c1] at h
    refine hV.run 3 [1] (ws' := wX8 σ) (pc' := 35) (ls' := [(0, .ref 0), (1, .retAddr a1)]) (st' := []) (ps := [¬ (σ 0 18) = 0]) rfl ⟨c1, trivial⟩ ?_
    exact p_X8_is_J35 hV n σ res hP a1 h

def X8_which_B2 (n : Nat) (σ : am_M) (kont2 : Int32 → Option Int32) (l2 : Int32) : Option Int32 := if (Int32.ofNat 11) ≤ l2 then (some (-1)) else (if l2 < 0 ∨ 11 ≤ l2.toNatClampNeg then none else (X8_is n σ (1 + l2.toNatClampNeg)).bind (fun q3 => if q3 = true then (some l2) else (kont2 (l2 + 1))))
def X8_which_L2 (n : Nat) (σ : am_M) : Nat → Int32 → Option Int32
 | 0 => fun _ => none
 | k + 1 => fun l2 => X8_which_B2 n σ (X8_which_L2 n σ k) l2
set_option maxRecDepth 100000 in
set_option maxHeartbeats 4000000 in
theorem p_X8_which_B2 {l : Launch} {Post : Option Value → am_W → Prop} {V : am_VT} (hV : am_B l RX8 false 6 (am_cdT' tX8_which) (am_rfL rfX8) (some .int) Post 36 V) (n : Nat) (σ : am_M) (res : Int32) (hP : Post (some (.int res)) (wX8 σ)) (kont2 : Int32 → Option Int32) (hk2 : ∀ (l2 : Int32), kont2 l2 = some res → V (wX8 σ) 2 [(0, .ref 0), (1, .ref 1), (2, .int l2)] []) (l2 : Int32) (h : X8_which_B2 n σ kont2 l2 = some res) : V (wX8 σ) 2 [(0, .ref 0), (1, .ref 1), (2, .int l2)] [] := by
  unfold X8_which_B2 at h
  by_cases c1 : (Int32.ofNat 11) ≤ l2
  · rw [if_pos c1] at h
    refine hV.run 5 [1] (ws' := wX8 σ) (pc' := 27) (ls' := [(0, .ref 0), (1, .ref 1), (2, .int l2)]) (st' := [.int (-1)]) (ps := [(Int32.ofNat 11) ≤ l2]) rfl ⟨c1, trivial⟩ ?_
    cases h
    exact hV.ri rfl rfl rfl hP
  · rw [if_neg c1] at h
    by_cases g2 : l2 < 0 ∨ 11 ≤ l2.toNatClampNeg
    · rw [if_pos g2] at h; cases h
    rw [if_neg g2] at h
    refine hV.run 8 [0] (ws' := wX8 σ) (pc' := 12) (ls' := [(0, .ref 0), (1, .ref 1), (2, .int l2)]) (st' := [.retAddr (1 + l2.toNatClampNeg), .ref 0]) (ps := [¬ (Int32.ofNat 11) ≤ l2, vp_in l2 11]) rfl ⟨c1, g2, trivial⟩ ?_
    obtain ⟨q3, hq3, h⟩ := am_bind h
    refine hV.cOi (as := [.retAddr (1 + l2.toNatClampNeg)]) (rest := []) (st := [.retAddr (1 + l2.toNatClampNeg), .ref 0]) (ws2 := wX8 σ) (pc2 := 15) kX8_234 (c_X8_is l n σ (1 + l2.toNatClampNeg) q3 hq3) rfl rfl rfl rfl rfl rfl rfl rfl rfl ?_
    by_cases c4 : q3 = true
    · rw [if_pos c4] at h
      refine hV.run 2 [0] (ws' := wX8 σ) (pc' := 19) (ls' := [(0, .ref 0), (1, .ref 1), (2, .int l2)]) (st' := [.int l2]) (ps := [¬ (b2i q3) = 0]) rfl ⟨(b2i_t c4), trivial⟩ ?_
      cases h
      exact hV.ri rfl rfl rfl hP
    · rw [if_neg c4] at h
      refine hV.run 3 [1] (ws' := wX8 σ) (pc' := 2) (ls' := [(2, .int (l2 + 1)), (0, .ref 0), (1, .ref 1)]) (st' := []) (ps := [(b2i q3) = 0]) rfl ⟨(b2i_f c4), trivial⟩ ?_
      refine hV.pick [1, 2, 0] (ls' := [(0, .ref 0), (1, .ref 1), (2, .int (l2 + 1))]) rfl ?_
      exact hk2 (l2 + 1) h
theorem p_X8_which_L2 {l : Launch} {Post : Option Value → am_W → Prop} {V : am_VT} (hV : am_B l RX8 false 6 (am_cdT' tX8_which) (am_rfL rfX8) (some .int) Post 36 V) (n : Nat) (σ : am_M) (res : Int32) (hP : Post (some (.int res)) (wX8 σ)) : ∀ (k : Nat) (l2 : Int32) (h : X8_which_L2 n σ k l2 = some res), V (wX8 σ) 2 [(0, .ref 0), (1, .ref 1), (2, .int l2)] [] := by
  intro k
  induction k with
  | zero => intro l2 h; cases h
  | succ k ih => intro l2 h; exact p_X8_which_B2 hV n σ res hP _ ih l2 h
def X8_which (n : Nat) (σ : am_M) : Option Int32 := X8_which_L2 n σ n 0
set_option maxRecDepth 100000 in
set_option maxHeartbeats 4000000 in
theorem c_X8_which (l : Launch) (n : Nat) (σ : am_M) (res : Int32) (h : X8_which n σ = some res) : am_Con l yX8_which cX8_which 3 (some .int) 6 [.ref 0, .ref 1] (wX8 σ) (fun (r : Option Value) (w : am_W) => r = (some (.int res)) ∧ w = (wX8 σ)) := by
  refine am_metn (n0 := 36) (own := RX8) (cd := am_cdT' tX8_which) (rf := am_rfL rfX8) (ini := false) rfl (by decide +kernel) rfl (by decide) dX8_which rfX8_ok (Nat.le_of_ble_eq_true rfl) ?_
  intro V hV
  have hP : (fun (r : Option Value) (w : am_W) => r = (some (.int res)) ∧ w = (wX8 σ)) (some (.int res)) (wX8 σ) := ⟨rfl, rfl⟩
  show V (wX8 σ) 0 [(0, .ref 0), (1, .ref 1)] []
  unfold X8_which at h
  refine hV.run 2 [] (ws' := wX8 σ) (pc' := 2) (ls' := [(2, .int 0), (0, .ref 0), (1, .ref 1)]) (st' := []) (ps := []) rfl trivial ?_
  refine hV.pick [1, 2, 0] (ls' := [(0, .ref 0), (1, .ref 1), (2, .int 0)]) rfl ?_
  exact p_X8_which_L2 hV n σ res hP n 0 h

