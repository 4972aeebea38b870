def X2_hasRoom (n : Nat) (σ : am_M) (a1 : Int32) : Option Bool := (X6_sentBetween n (am_sub σ 2) a1 (X2_get σ a1 10)).bind (fun q1 => if (σ 0 2) ≤ q1 then (some false) else (some true))
set_option maxRecDepth 100000 in
set_option maxHeartbeats 4000000 in
theorem c_X2_hasRoom (l : Launch) (n : Nat) (σ : am_M) (τ : Nat → Int64) (a1 : Int32) (res : Bool) (h : X2_hasRoom n σ a1 = some res) : am_Con l yX2_hasRoom cX2_hasRoom 2 (some .boolean) 4 [.ref 0, .int a1] (wX2 11 σ τ) (fun (r : Option Value) (w : am_W) => r = (some (.int (b2i res))) ∧ w = (wX2 11 σ τ)) := by
  refine am_metn (n0 := 19) (own := RX2) (cd := am_cdT' tX2_hasRoom) (rf := am_rfL rfX2) (ini := false) rfl (by decide +kernel) rfl (by decide) dX2_hasRoom rfX2_ok (Nat.le_of_ble_eq_true rfl) ?_
  intro V hV
  have hP : (fun (r : Option Value) (w : am_W) => r = (some (.int (b2i res))) ∧ w = (wX2 11 σ τ)) (some (.int (b2i res))) (wX2 11 σ τ) := ⟨rfl, rfl⟩
  show V (wX2 11 σ τ) 0 [(0, .ref 0), (1, .int a1)] []
  unfold X2_hasRoom at h
  refine hV.run 6 [] (ws' := wX2 11 σ τ) (pc' := 9) (ls' := [(0, .ref 0), (1, .int a1)]) (st' := [.int 10, .int a1, .ref 0, .int a1, .ref 2]) (ps := []) rfl trivial ?_
  refine hV.cOi (as := [.int a1, .int 10]) (rest := [.int a1, .ref 2]) (st := [.int 10, .int a1, .ref 0, .int a1, .ref 2]) (ws2 := wX2 11 σ τ) (pc2 := 12) kX2_81 (c_X2_get l σ τ a1 10) rfl rfl rfl rfl rfl rfl rfl rfl rfl ?_
  obtain ⟨q1, hq1, h⟩ := am_bind h
  refine hV.cBi 2 5 [] (as := [.int a1, .int (X2_get σ a1 10)]) (rest := []) (st := [.int (X2_get σ a1 10), .int a1, .ref 2]) (ws2 := wX2 11 σ τ) (pc2 := 15) kX2_160 (c_X6_sentBetween l n (am_sub σ 2) a1 (X2_get σ a1 10) q1 hq1) rfl rfl rfl rfl rfl rfl rfl rfl rfl rfl rfl rfl rfl rfl ?_
  by_cases c2 : (σ 0 2) ≤ q1
  · rw [if_pos c2] at h
    refine hV.run 4 [1] (ws' := wX2 11 σ τ) (pc' := 27) (ls' := [(0, .ref 0), (1, .int a1)]) (st' := [.int 0]) (ps := [(σ 0 2) ≤ q1]) rfl ⟨c2, trivial⟩ ?_
    cases h
    exact hV.rz rfl rfl rfl (Or.inl rfl) hP
  · rw [if_neg c2] at h
    refine hV.run 5 [0] (ws' := wX2 11 σ τ) (pc' := 27) (ls' := [(0, .ref 0), (1, .int a1)]) (st' := [.int 1]) (ps := [¬ (σ 0 2) ≤ q1]) rfl ⟨c2, trivial⟩ ?_
    cases h
    exact hV.rz rfl rfl rfl (Or.inr rfl) hP

def X2_canMeet_J61 (n : Nat) (σ : am_M) (l1 : Int32) (l2 : Int32) : Option Bool := (X6_first n (am_sub σ 2) l1 l2 (X2_get σ l1 11)).bind (fun q1 => if q1 = (-1) then (some true) else (some false))
set_option maxRecDepth 100000 in
set_option maxHeartbeats 4000000 in
theorem p_X2_canMeet_J61 {l : Launch} {Post : Option Value → am_W → Prop} {V : am_VT} (hV : am_B l RX2 false 4 (am_cdT' tX2_canMeet) (am_rfL rfX2) (some .boolean) Post 19 V) (n : Nat) (σ : am_M) (τ : Nat → Int64) (res : Bool) (hP : Post (some (.int (b2i res))) (wX2 11 σ τ)) (l1 : Int32) (l2 : Int32) (h : X2_canMeet_J61 n σ l1 l2 = some res) : V (wX2 11 σ τ) 61 [(0, .ref 0), (1, .int l1), (2, .int l2)] [] := by
  unfold X2_canMeet_J61 at h
  refine hV.run 7 [] (ws' := wX2 11 σ τ) (pc' := 71) (ls' := [(0, .ref 0), (1, .int l1), (2, .int l2)]) (st' := [.int 11, .int l1, .ref 0, .int l2, .int l1, .ref 2]) (ps := []) rfl trivial ?_
  refine hV.cOi (as := [.int l1, .int 11]) (rest := [.int l2, .int l1, .ref 2]) (st := [.int 11, .int l1, .ref 0, .int l2, .int l1, .ref 2]) (ws2 := wX2 11 σ τ) (pc2 := 74) kX2_81 (c_X2_get l σ τ l1 11) rfl rfl rfl rfl rfl rfl rfl rfl rfl ?_
  obtain ⟨q1, hq1, h⟩ := am_bind h
  refine hV.cBi 2 5 [] (as := [.int l1, .int l2, .int (X2_get σ l1 11)]) (rest := []) (st := [.int (X2_get σ l1 11), .int l2, .int l1, .ref 2]) (ws2 := wX2 11 σ τ) (pc2 := 77) kX2_151 (c_X6_first l n (am_sub σ 2) l1 l2 (X2_get σ l1 11) q1 hq1) rfl rfl rfl rfl rfl rfl rfl rfl rfl rfl rfl rfl rfl rfl ?_
  by_cases c2 : q1 = (-1)
  · rw [if_pos c2] at h
    refine hV.run 4 [0] (ws' := wX2 11 σ τ) (pc' := 86) (ls' := [(0, .ref 0), (1, .int l1), (2, .int l2)]) (st' := [.int 1]) (ps := [q1 = (-1)]) rfl ⟨c2, trivial⟩ ?_
    cases h
    exact hV.rz rfl rfl rfl (Or.inr rfl) hP
  · rw [if_neg c2] at h
    refine hV.run 3 [1] (ws' := wX2 11 σ τ) (pc' := 86) (ls' := [(0, .ref 0), (1, .int l1), (2, .int l2)]) (st' := [.int 0]) (ps := [¬ q1 = (-1)]) rfl ⟨c2, trivial⟩ ?_
    cases h
    exact hV.rz rfl rfl rfl (Or.inl rfl) hP
def X2_canMeet_J24 (n : Nat) (σ : am_M) (l1 : Int32) (l2 : Int32) (l3 : Int32) : Option Bool := if (X2_get σ l2 11) = (X2_get σ l1 11) then (if l3 = 3 then (if (X2_get σ l2 10) = l1 then (X2_canMeet_J61 n σ l1 l2) else (some false)) else (X2_canMeet_J61 n σ l1 l2)) else (some false)
set_option maxRecDepth 100000 in
set_option maxHeartbeats 4000000 in
theorem p_X2_canMeet_J24 {l : Launch} {Post : Option Value → am_W → Prop} {V : am_VT} (hV : am_B l RX2 false 4 (am_cdT' tX2_canMeet) (am_rfL rfX2) (some .boolean) Post 19 V) (n : Nat) (σ : am_M) (τ : Nat → Int64) (res : Bool) (hP : Post (some (.int (b2i res))) (wX2 11 σ τ)) (l1 : Int32) (l2 : Int32) (l3 : Int32) (h : X2_canMeet_J24 n σ l1 l2 l3 = some res) : V (wX2 11 σ τ) 24 [(0, .ref 0), (1, .int l1), (2, .int l2), (3, .int l3)] [] := by
  unfold X2_canMeet_J24 at h
  refine hV.run 3 [] (ws' := wX2 11 σ τ) (pc' := 28) (ls' := [(0, .ref 0), (1, .int l1), (2, .int l2), (3, .int l3)]) (st' := [.int 11, .int l2, .ref 0]) (ps := []) rfl trivial ?_
  refine hV.cOi (as := [.int l2, .int 11]) (rest := []) (st := [.int 11, .int l2, .ref 0]) (ws2 := wX2 11 σ τ) (pc2 := 31) kX2_81 (c_X2_get l σ τ l2 11) rfl rfl rfl rfl rfl rfl rfl rfl rfl ?_
  refine hV.run 3 [] (ws' := wX2 11 σ τ) (pc' := 35) (ls' := [(0, .ref 0), (1, .int l1), (2, .int l2), (3, .int l3)]) (st' := [.int 11, .int l1, .ref 0, .int (X2_get σ l2 11)]) (ps := []) rfl trivial ?_
  refine hV.cOi (as := [.int l1, .int 11]) (rest := [.int (X2_get σ l2 11)]) (st := [.int 11, .int l1, .ref 0, .int (X2_get σ l2 11)]) (ws2 := wX2 11 σ τ) (pc2 := 38) kX2_81 (c_X2_get l σ τ l1 11) rfl rfl rfl rfl rfl rfl rfl rfl rfl ?_
  by_cases c1 : (X2_get σ l2 11) = (X2_get σ l1 11)
  · rw [if_pos c1] at h
    by_cases c2 : l3 = 3
    · rw [if_pos c2] at h
      refine hV.run 7 [1, 0] (ws' := wX2 11 σ τ) (pc' := 52) (ls' := [(0, .ref 0), (1, .int l1), (2, .int l2), (3, .int l3)]) (st' := [.int 10, .int l2, .ref 0]) (ps := [(X2_get σ l2 11) = (X2_get σ l1 11), l3 = 3]) rfl ⟨c1, c2, trivial⟩ ?_
      refine hV.cOi (as := [.int l2, .int 10]) (rest := []) (st := [.int 10, .int l2, .ref 0]) (ws2 := wX2 11 σ τ) (pc2 := 55) kX2_81 (c_X2_get l σ τ l2 10) rfl rfl rfl rfl rfl rfl rfl rfl rfl ?_
      by_cases c3 : (X2_get σ l2 10) = l1
      · rw [if_pos c3] at h
        refine hV.run 2 [1] (ws' := wX2 11 σ τ) (pc' := 61) (ls' := [(0, .ref 0), (1, .int l1), (2, .int l2), (3, .int l3)]) (st' := []) (ps := [(X2_get σ l2 10) = l1]) rfl ⟨c3, trivial⟩ ?_
        refine hV.pick [0, 1, 2] (ls' := [(0, .ref 0), (1, .int l1), (2, .int l2)]) rfl ?_
        exact p_X2_canMeet_J61 hV n σ τ res hP l1 l2 h
      · rw [if_neg c3] at h
        refine hV.run 3 [0] (ws' := wX2 11 σ τ) (pc' := 60) (ls' := [(0, .ref 0), (1, .int l1), (2, .int l2), (3, .int l3)]) (st' := [.int 0]) (ps := [¬ (X2_get σ l2 10) = l1]) rfl ⟨c3, trivial⟩ ?_
        cases h
        exact hV.rz rfl rfl rfl (Or.inl rfl) hP
    · rw [if_neg c2] at h
      refine hV.run 4 [1, 1] (ws' := wX2 11 σ τ) (pc' := 61) (ls' := [(0, .ref 0), (1, .int l1), (2, .int l2), (3, .int l3)]) (st' := []) (ps := [(X2_get σ l2 11) = (X2_get σ l1 11), ¬ l3 = 3]) rfl ⟨c1, c2, trivial⟩ ?_
      refine hV.pick [0, 1, 2] (ls' := [(0, .ref 0), (1, .int l1), (2, .int l2)]) rfl ?_
      exact p_X2_canMeet_J61 hV n σ τ res hP l1 l2 h
  · rw [if_neg c1] at h
    refine hV.run 2 [0] (ws' := wX2 11 σ τ) (pc' := 42) (ls' := [(0, .ref 0), (1, .int l1), (2, .int l2), (3, .int l3)]) (st' := [.int 0]) (ps := [¬ (X2_get σ l2 11) = (X2_get σ l1 11)]) rfl ⟨c1, trivial⟩ ?_
    cases h
    exact hV.rz rfl rfl rfl (Or.inl rfl) hP
def X2_canMeet (n : Nat) (σ : am_M) (a1 : Int32) : Option Bool := if (X2_doing σ (X2_get σ a1 10)) = 3 then (X2_canMeet_J24 n σ a1 (X2_get σ a1 10) (X2_doing σ (X2_get σ a1 10))) else (if (X2_doing σ (X2_get σ a1 10)) = 4 then (X2_canMeet_J24 n σ a1 (X2_get σ a1 10) (X2_doing σ (X2_get σ a1 10))) else (some false))
set_option maxRecDepth 100000 in
set_option maxHeartbeats 4000000 in
theorem c_X2_canMeet (l : Launch) (n : Nat) (σ : am_M) (τ : Nat → Int64) (a1 : Int32) (res : Bool) (h : X2_canMeet n σ a1 = some res) : am_Con l yX2_canMeet cX2_canMeet 4 (some .boolean) 4 [.ref 0, .int a1] (wX2 11 σ τ) (fun (r : Option Value) (w : am_W) => r = (some (.int (b2i res))) ∧ w = (wX2 11 σ τ)) := by
  refine am_metn (n0 := 19) (own := RX2) (cd := am_cdT' tX2_canMeet) (rf := am_rfL rfX2) (ini := false) rfl (by decide +kernel) rfl (by decide) dX2_canMeet rfX2_ok (Nat.le_of_ble_eq_true rfl) ?_
  intro V hV
  have hP : (fun (r : Option Value) (w : am_W) => r = (some (.int (b2i res))) ∧ w = (wX2 11 σ τ)) (some (.int (b2i res))) (wX2 11 σ τ) := ⟨rfl, rfl⟩
  show V (wX2 11 σ τ) 0 [(0, .ref 0), (1, .int a1)] []
  unfold X2_canMeet at h
  refine hV.run 3 [] (ws' := wX2 11 σ τ) (pc' := 4) (ls' := [(0, .ref 0), (1, .int a1)]) (st' := [.int 10, .int a1, .ref 0]) (ps := []) rfl trivial ?_
  refine hV.cOi (as := [.int a1, .int 10]) (rest := []) (st := [.int 10, .int a1, .ref 0]) (ws2 := wX2 11 σ τ) (pc2 := 7) kX2_81 (c_X2_get l σ τ a1 10) rfl rfl rfl rfl rfl rfl rfl rfl rfl ?_
  refine hV.run 3 [] (ws' := wX2 11 σ τ) (pc' := 10) (ls' := [(2, .int (X2_get σ a1 10)), (0, .ref 0), (1, .int a1)]) (st' := [.int (X2_get σ a1 10), .ref 0]) (ps := []) rfl trivial ?_
  refine hV.cOi (as := [.int (X2_get σ a1 10)]) (rest := []) (st := [.int (X2_get σ a1 10), .ref 0]) (ws2 := wX2 11 σ τ) (pc2 := 13) kX2_142 (c_X2_doing l σ τ (X2_get σ a1 10)) rfl rfl rfl rfl rfl rfl rfl rfl rfl ?_
  by_cases c1 : (X2_doing σ (X2_get σ a1 10)) = 3
  · rw [if_pos c1] at h
    refine hV.run 4 [1] (ws' := wX2 11 σ τ) (pc' := 24) (ls' := [(3, .int (X2_doing σ (X2_get σ a1 10))), (2, .int (X2_get σ a1 10)), (0, .ref 0), (1, .int a1)]) (st' := []) (ps := [(X2_doing σ (X2_get σ a1 10)) = 3]) rfl ⟨c1, trivial⟩ ?_
    refine hV.pick [2, 3, 1, 0] (ls' := [(0, .ref 0), (1, .int a1), (2, .int (X2_get σ a1 10)), (3, .int (X2_doing σ (X2_get σ a1 10)))]) rfl ?_
    exact p_X2_canMeet_J24 hV n σ τ res hP a1 (X2_get σ a1 10) (X2_doing σ (X2_get σ a1 10)) h
  · rw [if_neg c1] at h
    by_cases c2 : (X2_doing σ (X2_get σ a1 10)) = 4
    · rw [if_pos c2] at h
      refine hV.run 7 [0, 0] (ws' := wX2 11 σ τ) (pc' := 24) (ls' := [(3, .int (X2_doing σ (X2_get σ a1 10))), (2, .int (X2_get σ a1 10)), (0, .ref 0), (1, .int a1)]) (st' := []) (ps := [¬ (X2_doing σ (X2_get σ a1 10)) = 3, (X2_doing σ (X2_get σ a1 10)) = 4]) rfl ⟨c1, c2, trivial⟩ ?_
      refine hV.pick [2, 3, 1, 0] (ls' := [(0, .ref 0), (1, .int a1), (2, .int (X2_get σ a1 10)), (3, .int (X2_doing σ (X2_get σ a1 10)))]) rfl ?_
      exact p_X2_canMeet_J24 hV n σ τ res hP a1 (X2_get σ a1 10) (X2_doing σ (X2_get σ a1 10)) h
    · rw [if_neg c2] at h
      refine hV.run 8 [0, 1] (ws' := wX2 11 σ τ) (pc' := 42) (ls' := [(3, .int (X2_doing σ (X2_get σ a1 10))), (2, .int (X2_get σ a1 10)), (0, .ref 0), (1, .int a1)]) (st' := [.int 0]) (ps := [¬ (X2_doing σ (X2_get σ a1 10)) = 3, ¬ (X2_doing σ (X2_get σ a1 10)) = 4]) rfl ⟨c1, c2, trivial⟩ ?_
      cases h
      exact hV.rz rfl rfl rfl (Or.inl rfl) hP

def X2_meetsAny_J28 (n : Nat) (σ : am_M) (l1 : Int32) (s0 : Int32) : Option Bool := if s0 = 0 then (some false) else (if (X2_doing σ (X2_get σ l1 10)) = 4 then (some true) else (some false))
set_option maxRecDepth 100000 in
set_option maxHeartbeats 4000000 in
theorem p_X2_meetsAny_J28 {l : Launch} {Post : Option Value → am_W → Prop} {V : am_VT} (hV : am_B l RX2 false 5 (am_cdT' tX2_meetsAny) (am_rfL rfX2) (some .boolean) Post 19 V) (n : Nat) (σ : am_M) (τ : Nat → Int64) (res : Bool) (hP : Post (some (.int (b2i res))) (wX2 11 σ τ)) (l1 : Int32) (s0 : Int32) (h : X2_meetsAny_J28 n σ l1 s0 = some res) : V (wX2 11 σ τ) 28 [(0, .ref 0), (1, .int l1)] [.int s0] := by
  unfold X2_meetsAny_J28 at h
  by_cases c1 : s0 = 0
  · rw [if_pos c1] at h
    refine hV.run 4 [1] (ws' := wX2 11 σ τ) (pc' := 53) (ls' := [(3, .int s0), (0, .ref 0), (1, .int l1)]) (st' := [.int 0]) (ps := [s0 = 0]) rfl ⟨c1, trivial⟩ ?_
    cases h
    exact hV.rz rfl rfl rfl (Or.inl rfl) hP
  · rw [if_neg c1] at h
    refine hV.run 7 [0] (ws' := wX2 11 σ τ) (pc' := 38) (ls' := [(3, .int s0), (0, .ref 0), (1, .int l1)]) (st' := [.int 10, .int l1, .ref 0, .ref 0]) (ps := [¬ s0 = 0]) rfl ⟨c1, trivial⟩ ?_
    refine hV.cOi (as := [.int l1, .int 10]) (rest := [.ref 0]) (st := [.int 10, .int l1, .ref 0, .ref 0]) (ws2 := wX2 11 σ τ) (pc2 := 41) kX2_81 (c_X2_get l σ τ l1 10) rfl rfl rfl rfl rfl rfl rfl rfl rfl ?_
    refine hV.cOi (as := [.int (X2_get σ l1 10)]) (rest := []) (st := [.int (X2_get σ l1 10), .ref 0]) (ws2 := wX2 11 σ τ) (pc2 := 44) kX2_142 (c_X2_doing l σ τ (X2_get σ l1 10)) rfl rfl rfl rfl rfl rfl rfl rfl rfl ?_
    by_cases c2 : (X2_doing σ (X2_get σ l1 10)) = 4
    · rw [if_pos c2] at h
      refine hV.run 4 [0] (ws' := wX2 11 σ τ) (pc' := 53) (ls' := [(3, .int s0), (0, .ref 0), (1, .int l1)]) (st' := [.int 1]) (ps := [(X2_doing σ (X2_get σ l1 10)) = 4]) rfl ⟨c2, trivial⟩ ?_
      cases h
      exact hV.rz rfl rfl rfl (Or.inr rfl) hP
    · rw [if_neg c2] at h
      refine hV.run 3 [1] (ws' := wX2 11 σ τ) (pc' := 53) (ls' := [(3, .int s0), (0, .ref 0), (1, .int l1)]) (st' := [.int 0]) (ps := [¬ (X2_doing σ (X2_get σ l1 10)) = 4]) rfl ⟨c2, trivial⟩ ?_
      cases h
      exact hV.rz rfl rfl rfl (Or.inl rfl) hP
def X2_meetsAny_J23 (n : Nat) (σ : am_M) (l1 : Int32) : Option Bool := X2_meetsAny_J28 n σ l1 1
set_option maxRecDepth 100000 in
set_option maxHeartbeats 4000000 in
theorem p_X2_meetsAny_J23 {l : Launch} {Post : Option Value → am_W → Prop} {V : am_VT} (hV : am_B l RX2 false 5 (am_cdT' tX2_meetsAny) (am_rfL rfX2) (some .boolean) Post 19 V) (n : Nat) (σ : am_M) (τ : Nat → Int64) (res : Bool) (hP : Post (some (.int (b2i res))) (wX2 11 σ τ)) (l1 : Int32) (h : X2_meetsAny_J23 n σ l1 = some res) : V (wX2 11 σ τ) 23 [(0, .ref 0), (1, .int l1)] [] := by
  unfold X2_meetsAny_J23 at h
  refine hV.run 2 [] (ws' := wX2 11 σ τ) (pc' := 28) (ls' := [(0, .ref 0), (1, .int l1)]) (st' := [.int 1]) (ps := []) rfl trivial ?_
  exact p_X2_meetsAny_J28 hV n σ τ res hP l1 1 h
def X2_meetsAny_J27 (n : Nat) (σ : am_M) (l1 : Int32) : Option Bool := X2_meetsAny_J28 n σ l1 0
set_option maxRecDepth 100000 in
set_option maxHeartbeats 4000000 in
theorem p_X2_meetsAny_J27 {l : Launch} {Post : Option Value → am_W → Prop} {V : am_VT} (hV : am_B l RX2 false 5 (am_cdT' tX2_meetsAny) (am_rfL rfX2) (some .boolean) Post 19 V) (n : Nat) (σ : am_M) (τ : Nat → Int64) (res : Bool) (hP : Post (some (.int (b2i res))) (wX2 11 σ τ)) (l1 : Int32) (h : X2_meetsAny_J27 n σ l1 = some res) : V (wX2 11 σ τ) 27 [(0, .ref 0), (1, .int l1)] [] := by
  unfold X2_meetsAny_J27 at h
  refine hV.run 1 [] (ws' := wX2 11 σ τ) (pc' := 28) (ls' := [(0, .ref 0), (1, .int l1)]) (st' := [.int 0]) (ps := []) rfl trivial ?_
  exact p_X2_meetsAny_J28 hV n σ τ res hP l1 0 h
def X2_meetsAny (n : Nat) (σ : am_M) (a1 : Int32) : Option Bool := if (X2_doing σ a1) = 1 then (X2_meetsAny_J23 n σ a1) else (if (X2_doing σ a1) = 0 then (X2_hasRoom n σ a1).bind (fun q3 => if q3 = true then (X2_meetsAny_J27 n σ a1) else (X2_meetsAny_J23 n σ a1)) else (X2_meetsAny_J27 n σ a1))
set_option maxRecDepth 100000 in
set_option maxHeartbeats 4000000 in
theorem c_X2_meetsAny (l : Launch) (n : Nat) (σ : am_M) (τ : Nat → Int64) (a1 : Int32) (res : Bool) (h : X2_meetsAny n σ a1 = some res) : am_Con l yX2_meetsAny cX2_meetsAny 4 (some .boolean) 5 [.ref 0, .int a1] (wX2 11 σ τ) (fun (r : Option Value) (w : am_W) => r = (some (.int (b2i res))) ∧ w = (wX2 11 σ τ)) := by
  refine am_metn (n0 := 19) (own := RX2) (cd := am_cdT' tX2_meetsAny) (rf := am_rfL rfX2) (ini := false) rfl (by decide +kernel) rfl (by decide) dX2_meetsAny rfX2_ok (Nat.le_of_ble_eq_true rfl) ?_
  intro V hV
  have hP : (fun (r : Option Value) (w : am_W) => r = (some (.int (b2i res))) ∧ w = (wX2 11 σ τ)) (some (.int (b2i res))) (wX2 11 σ τ) := ⟨rfl, rfl⟩
  show V (wX2 11 σ τ) 0 [(0, .ref 0), (1, .int a1)] []
  unfold X2_meetsAny at h
  refine hV.run 2 [] (ws' := wX2 11 σ τ) (pc' := 2) (ls' := [(0, .ref 0), (1, .int a1)]) (st' := [.int a1, .ref 0]) (ps := []) rfl trivial ?_
  refine hV.cOi (as := [.int a1]) (rest := []) (st := [.int a1, .ref 0]) (ws2 := wX2 11 σ τ) (pc2 := 5) kX2_142 (c_X2_doing l σ τ a1) rfl rfl rfl rfl rfl rfl rfl rfl rfl ?_
  by_cases c1 : (X2_doing σ a1) = 1
  · rw [if_pos c1] at h
    refine hV.run 4 [1] (ws' := wX2 11 σ τ) (pc' := 23) (ls' := [(2, .int (X2_doing σ a1)), (0, .ref 0), (1, .int a1)]) (st' := []) (ps := [(X2_doing σ a1) = 1]) rfl ⟨c1, trivial⟩ ?_
    refine hV.pick [1, 2] (ls' := [(0, .ref 0), (1, .int a1)]) rfl ?_
    exact p_X2_meetsAny_J23 hV n σ τ res hP a1 h
  · rw [if_neg c1] at h
    by_cases c2 : (X2_doing σ a1) = 0
    · rw [if_pos c2] at h
      refine hV.run 8 [0, 0] (ws' := wX2 11 σ τ) (pc' := 17) (ls' := [(2, .int (X2_doing σ a1)), (0, .ref 0), (1, .int a1)]) (st' := [.int a1, .ref 0]) (ps := [¬ (X2_doing σ a1) = 1, (X2_doing σ a1) = 0]) rfl ⟨c1, c2, trivial⟩ ?_
      obtain ⟨q3, hq3, h⟩ := am_bind h
      refine hV.cOi (as := [.int a1]) (rest := []) (st := [.int a1, .ref 0]) (ws2 := wX2 11 σ τ) (pc2 := 20) kX2_145 (c_X2_hasRoom l n σ τ a1 q3 hq3) rfl rfl rfl rfl rfl rfl rfl rfl rfl ?_
      by_cases c4 : q3 = true
      · rw [if_pos c4] at h
        refine hV.run 1 [1] (ws' := wX2 11 σ τ) (pc' := 27) (ls' := [(2, .int (X2_doing σ a1)), (0, .ref 0), (1, .int a1)]) (st' := []) (ps := [¬ (b2i q3) = 0]) rfl ⟨(b2i_t c4), trivial⟩ ?_
        refine hV.pick [1, 2] (ls' := [(0, .ref 0), (1, .int a1)]) rfl ?_
        exact p_X2_meetsAny_J27 hV n σ τ res hP a1 h
      · rw [if_neg c4] at h
        refine hV.run 1 [0] (ws' := wX2 11 σ τ) (pc' := 23) (ls' := [(2, .int (X2_doing σ a1)), (0, .ref 0), (1, .int a1)]) (st' := []) (ps := [(b2i q3) = 0]) rfl ⟨(b2i_f c4), trivial⟩ ?_
        refine hV.pick [1, 2] (ls' := [(0, .ref 0), (1, .int a1)]) rfl ?_
        exact p_X2_meetsAny_J23 hV n σ τ res hP a1 h
    · rw [if_neg c2] at h
      refine hV.run 6 [0, 1] (ws' := wX2 11 σ τ) (pc' := 27) (ls' := [(2, .int (X2_doing σ a1)), (0, .ref 0), (1, .int a1)]) (st' := []) (ps := [¬ (X2_doing σ a1) = 1, ¬ (X2_doing σ a1) = 0]) rfl ⟨c1, c2, trivial⟩ ?_
      refine hV.pick [1, 2] (ls' := [(0, .ref 0), (1, .int a1)]) rfl ?_
      exact p_X2_meetsAny_J27 hV n σ τ res hP a1 h

def X2_leastSource_B2 (n : Nat) (σ : am_M) (kont2 : Int32 → Int32 → Option Int32) (l1 : Int32) (l2 : Int32) : Option Int32 := if (σ 0 1) ≤ l2 then (some (-1)) else (X6_first n (am_sub σ 2) l2 l1 (X2_get σ l1 11)).bind (fun q2 => if q2 = (-1) then (kont2 l1 (l2 + 1)) else (some l2))
def X2_leastSource_L2 (n : Nat) (σ : am_M) : Nat → Int32 → Int32 → Option Int32
 | 0 => fun _ _ => none
 | k + 1 => fun l1 l2 => X2_leastSource_B2 n σ (X2_leastSource_L2 n σ k) l1 l2
set_option maxRecDepth 100000 in
set_option maxHeartbeats 4000000 in
theorem p_X2_leastSource_B2 {l : Launch} {Post : Option Value → am_W → Prop} {V : am_VT} (hV : am_B l RX2 false 4 (am_cdT' tX2_leastSource) (am_rfL rfX2) (some .int) Post 19 V) (n : Nat) (σ : am_M) (τ : Nat → Int64) (res : Int32) (hP : Post (some (.int res)) (wX2 11 σ τ)) (kont2 : Int32 → Int32 → Option Int32) (hk2 : ∀ (l1 : Int32) (l2 : Int32), kont2 l1 l2 = some res → V (wX2 11 σ τ) 2 [(0, .ref 0), (1, .int l1), (2, .int l2)] []) (l1 : Int32) (l2 : Int32) (h : X2_leastSource_B2 n σ kont2 l1 l2 = some res) : V (wX2 11 σ τ) 2 [(0, .ref 0), (1, .int l1), (2, .int l2)] [] := by
  unfold X2_leastSource_B2 at h
  by_cases c1 : (σ 0 1) ≤ l2
  · rw [if_pos c1] at h
    refine hV.run 5 [1] (ws' := wX2 11 σ τ) (pc' := 39) (ls' := [(0, .ref 0), (1, .int l1), (2, .int l2)]) (st' := [.int (-1)]) (ps := [(σ 0 1) ≤ l2]) rfl ⟨c1, trivial⟩ ?_
    cases h
    exact hV.ri rfl rfl rfl hP
  · rw [if_neg c1] at h
    refine hV.run 11 [0] (ws' := wX2 11 σ τ) (pc' := 20) (ls' := [(0, .ref 0), (1, .int l1), (2, .int l2)]) (st' := [.int 11, .int l1, .ref 0, .int l1, .int l2, .ref 2]) (ps := [¬ (σ 0 1) ≤ l2]) rfl ⟨c1, trivial⟩ ?_
    refine hV.cOi (as := [.int l1, .int 11]) (rest := [.int l1, .int l2, .ref 2]) (st := [.int 11, .int l1, .ref 0, .int l1, .int l2, .ref 2]) (ws2 := wX2 11 σ τ) (pc2 := 23) kX2_81 (c_X2_get l σ τ l1 11) rfl rfl rfl rfl rfl rfl rfl rfl rfl ?_
    obtain ⟨q2, hq2, h⟩ := am_bind h
    refine hV.cBi 2 5 [] (as := [.int l2, .int l1, .int (X2_get σ l1 11)]) (rest := []) (st := [.int (X2_get σ l1 11), .int l1, .int l2, .ref 2]) (ws2 := wX2 11 σ τ) (pc2 := 26) kX2_151 (c_X6_first l n (am_sub σ 2) l2 l1 (X2_get σ l1 11) q2 hq2) rfl rfl rfl rfl rfl rfl rfl rfl rfl rfl rfl rfl rfl rfl ?_
    by_cases c3 : q2 = (-1)
    · rw [if_pos c3] at h
      refine hV.run 4 [1] (ws' := wX2 11 σ τ) (pc' := 2) (ls' := [(2, .int (l2 + 1)), (0, .ref 0), (1, .int l1)]) (st' := []) (ps := [q2 = (-1)]) rfl ⟨c3, trivial⟩ ?_
      refine hV.pick [1, 2, 0] (ls' := [(0, .ref 0), (1, .int l1), (2, .int (l2 + 1))]) rfl ?_
      exact hk2 l1 (l2 + 1) h
    · rw [if_neg c3] at h
      refine hV.run 3 [0] (ws' := wX2 11 σ τ) (pc' := 31) (ls' := [(0, .ref 0), (1, .int l1), (2, .int l2)]) (st' := [.int l2]) (ps := [¬ q2 = (-1)]) rfl ⟨c3, trivial⟩ ?_
      cases h
      exact hV.ri rfl rfl rfl hP
theorem p_X2_leastSource_L2 {l : Launch} {Post : Option Value → am_W → Prop} {V : am_VT} (hV : am_B l RX2 false 4 (am_cdT' tX2_leastSource) (am_rfL rfX2) (some .int) Post 19 V) (n : Nat) (σ : am_M) (τ : Nat → Int64) (res : Int32) (hP : Post (some (.int res)) (wX2 11 σ τ)) : ∀ (k : Nat) (l1 : Int32) (l2 : Int32) (h : X2_leastSource_L2 n σ k l1 l2 = some res), V (wX2 11 σ τ) 2 [(0, .ref 0), (1, .int l1), (2, .int l2)] [] := by
  intro k
  induction k with
  | zero => intro l1 l2 h; cases h
  | succ k ih => intro l1 l2 h; exact p_X2_leastSource_B2 hV n σ τ res hP _ ih l1 l2 h
def X2_leastSource (n : Nat) (σ : am_M) (a1 : Int32) : Option Int32 := X2_leastSource_L2 n σ n a1 0
set_option maxRecDepth 100000 in
set_option maxHeartbeats 4000000 in
theorem c_X2_leastSource (l : Launch) (n : Nat) (σ : am_M) (τ : Nat → Int64) (a1 : Int32) (res : Int32) (h : X2_leastSource n σ a1 = some res) : am_Con l yX2_leastSource cX2_leastSource 3 (some .int) 4 [.ref 0, .int a1] (wX2 11 σ τ) (fun (r : Option Value) (w : am_W) => r = (some (.int res)) ∧ w = (wX2 11 σ τ)) := by
  refine am_metn (n0 := 19) (own := RX2) (cd := am_cdT' tX2_leastSource) (rf := am_rfL rfX2) (ini := false) rfl (by decide +kernel) rfl (by decide) dX2_leastSource rfX2_ok (Nat.le_of_ble_eq_true rfl) ?_
  intro V hV
  have hP : (fun (r : Option Value) (w : am_W) => r = (some (.int res)) ∧ w = (wX2 11 σ τ)) (some (.int res)) (wX2 11 σ τ) := ⟨rfl, rfl⟩
  show V (wX2 11 σ τ) 0 [(0, .ref 0), (1, .int a1)] []
  unfold X2_leastSource at h
  refine hV.run 2 [] (ws' := wX2 11 σ τ) (pc' := 2) (ls' := [(2, .int 0), (0, .ref 0), (1, .int a1)]) (st' := []) (ps := []) rfl trivial ?_
  refine hV.pick [1, 2, 0] (ls' := [(0, .ref 0), (1, .int a1), (2, .int 0)]) rfl ?_
  exact p_X2_leastSource_L2 hV n σ τ res hP n a1 0 h

def X2_notDoing_J27 (n : Nat) (σ : am_M) (kont4 : Int32 → Int32 → Int32 → Option Int32) (l1 : Int32) (l2 : Int32) (l3 : Int32) : Option Int32 := kont4 l1 l2 (l3 + 1)
set_option maxRecDepth 100000 in
set_option maxHeartbeats 4000000 in
theorem p_X2_notDoing_J27 {l : Launch} {Post : Option Value → am_W → Prop} {V : am_VT} (hV : am_B l RX2 false 4 (am_cdT' tX2_notDoing) (am_rfL rfX2) (some .int) Post 19 V) (n : Nat) (σ : am_M) (τ : Nat → Int64) (res : Int32) (hP : Post (some (.int res)) (wX2 11 σ τ)) (kont4 : Int32 → Int32 → Int32 → Option Int32) (hk4 : ∀ (l1 : Int32) (l2 : Int32) (l3 : Int32), kont4 l1 l2 l3 = some res → V (wX2 11 σ τ) 4 [(0, .ref 0), (1, .int l1), (2, .int l2), (3, .int l3)] []) (l1 : Int32) (l2 : Int32) (l3 : Int32) (h : X2_notDoing_J27 n σ kont4 l1 l2 l3 = some res) : V (wX2 11 σ τ) 27 [(0, .ref 0), (1, .int l1), (2, .int l2), (3, .int l3)] [] := by
  unfold X2_notDoing_J27 at h
  refine hV.run 2 [] (ws' := wX2 11 σ τ) (pc' := 4) (ls' := [(3, .int (l3 + 1)), (0, .ref 0), (1, .int l1), (2, .int l2)]) (st' := []) (ps := []) rfl trivial ?_
  refine hV.pick [1, 2, 3, 0] (ls' := [(0, .ref 0), (1, .int l1), (2, .int l2), (3, .int (l3 + 1))]) rfl ?_
  exact hk4 l1 l2 (l3 + 1) h
def X2_notDoing_B4 (n : Nat) (σ : am_M) (kont4 : Int32 → Int32 → Int32 → Option Int32) (l1 : Int32) (l2 : Int32) (l3 : Int32) : Option Int32 := if (σ 0 1) ≤ l3 then (some l2) else (if (X2_doing σ l3) = l1 then (X2_notDoing_J27 n σ kont4 l1 l2 l3) else (X2_notDoing_J27 n σ kont4 l1 (l2 ||| (1 <<< (l3 &&& 31))) l3))
def X2_notDoing_L4 (n : Nat) (σ : am_M) : Nat → Int32 → Int32 → Int32 → Option Int32
 | 0 => fun _ _ _ => none
 | k + 1 => fun l1 l2 l3 => X2_notDoing_B4 n σ (X2_notDoing_L4 n σ k) l1 l2 l3
set_option maxRecDepth 100000 in
set_option maxHeartbeats 4000000 in
theorem p_X2_notDoing_B4 {l : Launch} {Post : Option Value → am_W → Prop} {V : am_VT} (hV : am_B l RX2 false 4 (am_cdT' tX2_notDoing) (am_rfL rfX2) (some .int) Post 19 V) (n : Nat) (σ : am_M) (τ : Nat → Int64) (res : Int32) (hP : Post (some (.int res)) (wX2 11 σ τ)) (kont4 : Int32 → Int32 → Int32 → Option Int32) (hk4 : ∀ (l1 : Int32) (l2 : Int32) (l3 : Int32), kont4 l1 l2 l3 = some res → V (wX2 11 σ τ) 4 [(0, .ref 0), (1, .int l1), (2, .int l2), (3, .int l3)] []) (l1 : Int32) (l2 : Int32) (l3 : Int32) (h : X2_notDoing_B4 n σ kont4 l1 l2 l3 = some res) : V (wX2 11 σ τ) 4 [(0, .ref 0), (1, .int l1), (2, .int l2), (3, .int l3)] [] := by
  unfold X2_notDoing_B4 at h
  by_cases c1 : (σ 0 1) ≤ l3
  · rw [if_pos c1] at h
    refine hV.run 5 [1] (ws' := wX2 11 σ τ) (pc' := 34) (ls' := [(0, .ref 0), (1, .int l1), (2, .int l2), (3, .int l3)]) (st' := [.int l2]) (ps := [(σ 0 1) ≤ l3]) rfl ⟨c1, trivial⟩ ?_
    cases h
    exact hV.ri rfl rfl rfl hP
  · rw [if_neg c1] at h
    refine hV.run 6 [0] (ws' := wX2 11 σ τ) (pc' := 14) (ls' := [(0, .ref 0), (1, .int l1), (2, .int l2), (3, .int l3)]) (st' := [.int l3, .ref 0]) (ps := [¬ (σ 0 1) ≤ l3]) rfl ⟨c1, trivial⟩ ?_
    refine hV.cOi (as := [.int l3]) (rest := []) (st := [.int l3, .ref 0]) (ws2 := wX2 11 σ τ) (pc2 := 17) kX2_142 (c_X2_doing l σ τ l3) rfl rfl rfl rfl rfl rfl rfl rfl rfl ?_
    by_cases c2 : (X2_doing σ l3) = l1
    · rw [if_pos c2] at h
      refine hV.run 2 [1] (ws' := wX2 11 σ τ) (pc' := 27) (ls' := [(0, .ref 0), (1, .int l1), (2, .int l2), (3, .int l3)]) (st' := []) (ps := [(X2_doing σ l3) = l1]) rfl ⟨c2, trivial⟩ ?_
      exact p_X2_notDoing_J27 hV n σ τ res hP kont4 hk4 l1 l2 l3 h
    · rw [if_neg c2] at h
      refine hV.run 8 [0] (ws' := wX2 11 σ τ) (pc' := 27) (ls' := [(2, .int (l2 ||| (1 <<< (l3 &&& 31)))), (0, .ref 0), (1, .int l1), (3, .int l3)]) (st' := []) (ps := [¬ (X2_doing σ l3) = l1]) rfl ⟨c2, trivial⟩ ?_
      refine hV.pick [1, 2, 0, 3] (ls' := [(0, .ref 0), (1, .int l1), (2, .int (l2 ||| (1 <<< (l3 &&& 31)))), (3, .int l3)]) rfl ?_
      exact p_X2_notDoing_J27 hV n σ τ res hP kont4 hk4 l1 (l2 ||| (1 <<< (l3 &&& 31))) l3 h
theorem p_X2_notDoing_L4 {l : Launch} {Post : Option Value → am_W → Prop} {V : am_VT} (hV : am_B l RX2 false 4 (am_cdT' tX2_notDoing) (am_rfL rfX2) (some .int) Post 19 V) (n : Nat) (σ : am_M) (τ : Nat → Int64) (res : Int32) (hP : Post (some (.int res)) (wX2 11 σ τ)) : ∀ (k : Nat) (l1 : Int32) (l2 : Int32) (l3 : Int32) (h : X2_notDoing_L4 n σ k l1 l2 l3 = some res), V (wX2 11 σ τ) 4 [(0, .ref 0), (1, .int l1), (2, .int l2), (3, .int l3)] [] := by
  intro k
  induction k with
  | zero => intro l1 l2 l3 h; cases h
  | succ k ih => intro l1 l2 l3 h; exact p_X2_notDoing_B4 hV n σ τ res hP _ ih l1 l2 l3 h
def X2_notDoing (n : Nat) (σ : am_M) (a1 : Int32) : Option Int32 := X2_notDoing_L4 n σ n a1 0 0
set_option maxRecDepth 100000 in
set_option maxHeartbeats 4000000 in
theorem c_X2_notDoing (l : Launch) (n : Nat) (σ : am_M) (τ : Nat → Int64) (a1 : Int32) (res : Int32) (h : X2_notDoing n σ a1 = some res) : am_Con l yX2_notDoing cX2_notDoing 4 (some .int) 4 [.ref 0, .int a1] (wX2 11 σ τ) (fun (r : Option Value) (w : am_W) => r = (some (.int res)) ∧ w = (wX2 11 σ τ)) := by
  refine am_metn (n0 := 19) (own := RX2) (cd := am_cdT' tX2_notDoing) (rf := am_rfL rfX2) (ini := false) rfl (by decide +kernel) rfl (by decide) dX2_notDoing rfX2_ok (Nat.le_of_ble_eq_true rfl) ?_
  intro V hV
  have hP : (fun (r : Option Value) (w : am_W) => r = (some (.int res)) ∧ w = (wX2 11 σ τ)) (some (.int res)) (wX2 11 σ τ) := ⟨rfl, rfl⟩
  show V (wX2 11 σ τ) 0 [(0, .ref 0), (1, .int a1)] []
  unfold X2_notDoing at h
  refine hV.run 4 [] (ws' := wX2 11 σ τ) (pc' := 4) (ls' := [(3, .int 0), (2, .int 0), (0, .ref 0), (1, .int a1)]) (st' := []) (ps := []) rfl trivial ?_
  refine hV.pick [2, 3, 1, 0] (ls' := [(0, .ref 0), (1, .int a1), (2, .int 0), (3, .int 0)]) rfl ?_
  exact p_X2_notDoing_L4 hV n σ τ res hP n a1 0 0 h

def X2_can (n : Nat) (σ : am_M) (a1 : Int32) (a2 : Int32) : Option Bool := if (X2_doing σ a1) = 0 then (X2_hasRoom n σ a1).bind (fun q2 => if q2 = true then (some true) else (X2_canMeet n σ a1).bind (fun q4 => if q4 = true then (some true) else (some false))) else (if (X2_doing σ a1) = 1 then (X2_canMeet n σ a1).bind (fun q7 => some q7) else (if (X2_doing σ a1) = 2 then (some true) else (if (X2_doing σ a1) = 3 then (X6_first n (am_sub σ 2) (X2_get σ a1 10) a1 (X2_get σ a1 11)).bind (fun q10 => if q10 = (-1) then (some false) else (some true)) else (if (X2_doing σ a1) = 4 then (X6_first n (am_sub σ 2) a2 a1 (X2_get σ a1 11)).bind (fun q13 => if q13 = (-1) then (some false) else (some true)) else (if (X2_doing σ a1) = 5 then (X6_begunBy n (am_sub σ 2) a1).bind (fun q16 => if q16 = 0 then (some true) else (some false)) else (if (X2_doing σ a1) = 6 then (if a1 = 0 then (X2_notDoing n σ (X2_doing σ a1)).bind (fun q20 => if q20 = 0 then (some true) else (some false)) else (some false)) else (if (X2_doing σ a1) = 7 then (if a1 = 0 then (X2_notDoing n σ (X2_doing σ a1)).bind (fun q24 => if q24 = 0 then (some true) else (some false)) else (some false)) else (some false))))))))
set_option maxRecDepth 100000 in
set_option maxHeartbeats 4000000 in
theorem c_X2_can (l : Launch) (n : Nat) (σ : am_M) (τ : Nat → Int64) (a1 : Int32) (a2 : Int32) (res : Bool) (h : X2_can n σ a1 a2 = some res) : am_Con l yX2_can cX2_can 4 (some .boolean) 5 [.ref 0, .int a1, .int a2] (wX2 11 σ τ) (fun (r : Option Value) (w : am_W) => r = (some (.int (b2i res))) ∧ w = (wX2 11 σ τ)) := by
  refine am_metn (n0 := 19) (own := RX2) (cd := am_cdT' tX2_can) (rf := am_rfL rfX2) (ini := false) rfl (by decide +kernel) rfl (by decide) dX2_can rfX2_ok (Nat.le_of_ble_eq_true rfl) ?_
  intro V hV
  have hP : (fun (r : Option Value) (w : am_W) => r = (some (.int (b2i res))) ∧ w = (wX2 11 σ τ)) (some (.int (b2i res))) (wX2 11 σ τ) := ⟨rfl, rfl⟩
  show V (wX2 11 σ τ) 0 [(0, .ref 0), (1, .int a1), (2, .int a2)] []
  unfold X2_can at h
  refine hV.run 2 [] (ws' := wX2 11 σ τ) (pc' := 2) (ls' := [(0, .ref 0), (1, .int a1), (2, .int a2)]) (st' := [.int a1, .ref 0]) (ps := []) rfl trivial ?_
  refine hV.cOi (as := [.int a1]) (rest := []) (st := [.int a1, .ref 0]) (ws2 := wX2 11 σ τ) (pc2 := 5) kX2_142 (c_X2_doing l σ τ a1) rfl rfl rfl rfl rfl rfl rfl rfl rfl ?_
  by_cases c1 : (X2_doing σ a1) = 0
  · rw [if_pos c1] at h
    refine hV.run 5 [1] (ws' := wX2 11 σ τ) (pc' := 54) (ls' := [(3, .int (X2_doing σ a1)), (0, .ref 0), (1, .int a1), (2, .int a2)]) (st' := [.int a1, .ref 0]) (ps := [(X2_doing σ a1).toInt = 0 + ((0 : Nat) : Int), 0 < 8, ¬ 7 < (X2_doing σ a1).toInt]) rfl ⟨(by rw [c1]; decide), (by decide), (by rw [c1]; decide), trivial⟩ ?_
    obtain ⟨q2, hq2, h⟩ := am_bind h
    refine hV.cOi (as := [.int a1]) (rest := []) (st := [.int a1, .ref 0]) (ws2 := wX2 11 σ τ) (pc2 := 57) kX2_145 (c_X2_hasRoom l n σ τ a1 q2 hq2) rfl rfl rfl rfl rfl rfl rfl rfl rfl ?_
    by_cases c3 : q2 = true
    · rw [if_pos c3] at h
      refine hV.run 3 [1] (ws' := wX2 11 σ τ) (pc' := 73) (ls' := [(3, .int (X2_doing σ a1)), (0, .ref 0), (1, .int a1), (2, .int a2)]) (st' := [.int 1]) (ps := [¬ (b2i q2) = 0]) rfl ⟨(b2i_t c3), trivial⟩ ?_
      cases h
      exact hV.rz rfl rfl rfl (Or.inr rfl) hP
    · rw [if_neg c3] at h
      refine hV.run 3 [0] (ws' := wX2 11 σ τ) (pc' := 62) (ls' := [(3, .int (X2_doing σ a1)), (0, .ref 0), (1, .int a1), (2, .int a2)]) (st' := [.int a1, .ref 0]) (ps := [(b2i q2) = 0]) rfl ⟨(b2i_f c3), trivial⟩ ?_
      obtain ⟨q4, hq4, h⟩ := am_bind h
      refine hV.cOi (as := [.int a1]) (rest := []) (st := [.int a1, .ref 0]) (ws2 := wX2 11 σ τ) (pc2 := 65) kX2_148 (c_X2_canMeet l n σ τ a1 q4 hq4) rfl rfl rfl rfl rfl rfl rfl rfl rfl ?_
      by_cases c5 : q4 = true
      · rw [if_pos c5] at h
        refine hV.run 3 [0] (ws' := wX2 11 σ τ) (pc' := 73) (ls' := [(3, .int (X2_doing σ a1)), (0, .ref 0), (1, .int a1), (2, .int a2)]) (st' := [.int 1]) (ps := [¬ (b2i q4) = 0]) rfl ⟨(b2i_t c5), trivial⟩ ?_
        cases h
        exact hV.rz rfl rfl rfl (Or.inr rfl) hP
      · rw [if_neg c5] at h
        refine hV.run 2 [1] (ws' := wX2 11 σ τ) (pc' := 73) (ls' := [(3, .int (X2_doing σ a1)), (0, .ref 0), (1, .int a1), (2, .int a2)]) (st' := [.int 0]) (ps := [(b2i q4) = 0]) rfl ⟨(b2i_f c5), trivial⟩ ?_
        cases h
        exact hV.rz rfl rfl rfl (Or.inl rfl) hP
  · rw [if_neg c1] at h
    by_cases c6 : (X2_doing σ a1) = 1
    · rw [if_pos c6] at h
      refine hV.run 5 [2] (ws' := wX2 11 σ τ) (pc' := 76) (ls' := [(3, .int (X2_doing σ a1)), (0, .ref 0), (1, .int a1), (2, .int a2)]) (st' := [.int a1, .ref 0]) (ps := [(X2_doing σ a1).toInt = 0 + ((1 : Nat) : Int), 1 < 8, ¬ 7 < (X2_doing σ a1).toInt]) rfl ⟨(by rw [c6]; decide), (by decide), (by rw [c6]; decide), trivial⟩ ?_
      obtain ⟨q7, hq7, h⟩ := am_bind h
      refine hV.cOi (as := [.int a1]) (rest := []) (st := [.int a1, .ref 0]) (ws2 := wX2 11 σ τ) (pc2 := 79) kX2_148 (c_X2_canMeet l n σ τ a1 q7 hq7) rfl rfl rfl rfl rfl rfl rfl rfl rfl ?_
      cases h
      exact hV.rz rfl rfl rfl (b2i_01 _) hP
    · rw [if_neg c6] at h
      by_cases c8 : (X2_doing σ a1) = 2
      · rw [if_pos c8] at h
        refine hV.run 4 [3] (ws' := wX2 11 σ τ) (pc' := 81) (ls' := [(3, .int (X2_doing σ a1)), (0, .ref 0), (1, .int a1), (2, .int a2)]) (st' := [.int 1]) (ps := [(X2_doing σ a1).toInt = 0 + ((2 : Nat) : Int), 2 < 8, ¬ 7 < (X2_doing σ a1).toInt]) rfl ⟨(by rw [c8]; decide), (by decide), (by rw [c8]; decide), trivial⟩ ?_
        cases h
        exact hV.rz rfl rfl rfl (Or.inr rfl) hP
      · rw [if_neg c8] at h
        by_cases c9 : (X2_doing σ a1) = 3
        · rw [if_pos c9] at h
          refine hV.run 8 [4] (ws' := wX2 11 σ τ) (pc' := 90) (ls' := [(3, .int (X2_doing σ a1)), (0, .ref 0), (1, .int a1), (2, .int a2)]) (st' := [.int 10, .int a1, .ref 0, .ref 2]) (ps := [(X2_doing σ a1).toInt = 0 + ((3 : Nat) : Int), 3 < 8, ¬ 7 < (X2_doing σ a1).toInt]) rfl ⟨(by rw [c9]; decide), (by decide), (by rw [c9]; decide), trivial⟩ ?_
          refine hV.cOi (as := [.int a1, .int 10]) (rest := [.ref 2]) (st := [.int 10, .int a1, .ref 0, .ref 2]) (ws2 := wX2 11 σ τ) (pc2 := 93) kX2_81 (c_X2_get l σ τ a1 10) rfl rfl rfl rfl rfl rfl rfl rfl rfl ?_
          refine hV.run 4 [] (ws' := wX2 11 σ τ) (pc' := 98) (ls' := [(3, .int (X2_doing σ a1)), (0, .ref 0), (1, .int a1), (2, .int a2)]) (st' := [.int 11, .int a1, .ref 0, .int a1, .int (X2_get σ a1 10), .ref 2]) (ps := []) rfl trivial ?_
          refine hV.cOi (as := [.int a1, .int 11]) (rest := [.int a1, .int (X2_get σ a1 10), .ref 2]) (st := [.int 11, .int a1, .ref 0, .int a1, .int (X2_get σ a1 10), .ref 2]) (ws2 := wX2 11 σ τ) (pc2 := 101) kX2_81 (c_X2_get l σ τ a1 11) rfl rfl rfl rfl rfl rfl rfl rfl rfl ?_
          obtain ⟨q10, hq10, h⟩ := am_bind h
          refine hV.cBi 2 5 [] (as := [.int (X2_get σ a1 10), .int a1, .int (X2_get σ a1 11)]) (rest := []) (st := [.int (X2_get σ a1 11), .int a1, .int (X2_get σ a1 10), .ref 2]) (ws2 := wX2 11 σ τ) (pc2 := 104) kX2_151 (c_X6_first l n (am_sub σ 2) (X2_get σ a1 10) a1 (X2_get σ a1 11) q10 hq10) rfl rfl rfl rfl rfl rfl rfl rfl rfl rfl rfl rfl rfl rfl ?_
          by_cases c11 : q10 = (-1)
          · rw [if_pos c11] at h
            refine hV.run 3 [1] (ws' := wX2 11 σ τ) (pc' := 113) (ls' := [(3, .int (X2_doing σ a1)), (0, .ref 0), (1, .int a1), (2, .int a2)]) (st' := [.int 0]) (ps := [q10 = (-1)]) rfl ⟨c11, trivial⟩ ?_
            cases h
            exact hV.rz rfl rfl rfl (Or.inl rfl) hP
          · rw [if_neg c11] at h
            refine hV.run 4 [0] (ws' := wX2 11 σ τ) (pc' := 113) (ls' := [(3, .int (X2_doing σ a1)), (0, .ref 0), (1, .int a1), (2, .int a2)]) (st' := [.int 1]) (ps := [¬ q10 = (-1)]) rfl ⟨c11, trivial⟩ ?_
            cases h
            exact hV.rz rfl rfl rfl (Or.inr rfl) hP
        · rw [if_neg c9] at h
          by_cases c12 : (X2_doing σ a1) = 4
          · rw [if_pos c12] at h
            refine hV.run 10 [5] (ws' := wX2 11 σ τ) (pc' := 124) (ls' := [(3, .int (X2_doing σ a1)), (0, .ref 0), (1, .int a1), (2, .int a2)]) (st' := [.int 11, .int a1, .ref 0, .int a1, .int a2, .ref 2]) (ps := [(X2_doing σ a1).toInt = 0 + ((4 : Nat) : Int), 4 < 8, ¬ 7 < (X2_doing σ a1).toInt]) rfl ⟨(by rw [c12]; decide), (by decide), (by rw [c12]; decide), trivial⟩ ?_
            refine hV.cOi (as := [.int a1, .int 11]) (rest := [.int a1, .int a2, .ref 2]) (st := [.int 11, .int a1, .ref 0, .int a1, .int a2, .ref 2]) (ws2 := wX2 11 σ τ) (pc2 := 127) kX2_81 (c_X2_get l σ τ a1 11) rfl rfl rfl rfl rfl rfl rfl rfl rfl ?_
            obtain ⟨q13, hq13, h⟩ := am_bind h
            refine hV.cBi 2 5 [] (as := [.int a2, .int a1, .int (X2_get σ a1 11)]) (rest := []) (st := [.int (X2_get σ a1 11), .int a1, .int a2, .ref 2]) (ws2 := wX2 11 σ τ) (pc2 := 130) kX2_151 (c_X6_first l n (am_sub σ 2) a2 a1 (X2_get σ a1 11) q13 hq13) rfl rfl rfl rfl rfl rfl rfl rfl rfl rfl rfl rfl rfl rfl ?_
            by_cases c14 : q13 = (-1)
            · rw [if_pos c14] at h
              refine hV.run 3 [1] (ws' := wX2 11 σ τ) (pc' := 139) (ls' := [(3, .int (X2_doing σ a1)), (0, .ref 0), (1, .int a1), (2, .int a2)]) (st' := [.int 0]) (ps := [q13 = (-1)]) rfl ⟨c14, trivial⟩ ?_
              cases h
              exact hV.rz rfl rfl rfl (Or.inl rfl) hP
            · rw [if_neg c14] at h
              refine hV.run 4 [0] (ws' := wX2 11 σ τ) (pc' := 139) (ls' := [(3, .int (X2_doing σ a1)), (0, .ref 0), (1, .int a1), (2, .int a2)]) (st' := [.int 1]) (ps := [¬ q13 = (-1)]) rfl ⟨c14, trivial⟩ ?_
              cases h
              exact hV.rz rfl rfl rfl (Or.inr rfl) hP
          · rw [if_neg c12] at h
            by_cases c15 : (X2_doing σ a1) = 5
            · rw [if_pos c15] at h
              refine hV.run 6 [6] (ws' := wX2 11 σ τ) (pc' := 145) (ls' := [(3, .int (X2_doing σ a1)), (0, .ref 0), (1, .int a1), (2, .int a2)]) (st' := [.int a1, .ref 2]) (ps := [(X2_doing σ a1).toInt = 0 + ((5 : Nat) : Int), 5 < 8, ¬ 7 < (X2_doing σ a1).toInt]) rfl ⟨(by rw [c15]; decide), (by decide), (by rw [c15]; decide), trivial⟩ ?_
              obtain ⟨q16, hq16, h⟩ := am_bind h
              refine hV.cBi 2 5 [] (as := [.int a1]) (rest := []) (st := [.int a1, .ref 2]) (ws2 := wX2 11 σ τ) (pc2 := 148) kX2_154 (c_X6_begunBy l n (am_sub σ 2) a1 q16 hq16) rfl rfl rfl rfl rfl rfl rfl rfl rfl rfl rfl rfl rfl rfl ?_
              by_cases c17 : q16 = 0
              · rw [if_pos c17] at h
                refine hV.run 3 [0] (ws' := wX2 11 σ τ) (pc' := 156) (ls' := [(3, .int (X2_doing σ a1)), (0, .ref 0), (1, .int a1), (2, .int a2)]) (st' := [.int 1]) (ps := [q16 = 0]) rfl ⟨c17, trivial⟩ ?_
                cases h
                exact hV.rz rfl rfl rfl (Or.inr rfl) hP
              · rw [if_neg c17] at h
                refine hV.run 2 [1] (ws' := wX2 11 σ τ) (pc' := 156) (ls' := [(3, .int (X2_doing σ a1)), (0, .ref 0), (1, .int a1), (2, .int a2)]) (st' := [.int 0]) (ps := [¬ q16 = 0]) rfl ⟨c17, trivial⟩ ?_
                cases h
                exact hV.rz rfl rfl rfl (Or.inl rfl) hP
            · rw [if_neg c15] at h
              by_cases c18 : (X2_doing σ a1) = 6
              · rw [if_pos c18] at h
                by_cases c19 : a1 = 0
                · rw [if_pos c19] at h
                  refine hV.run 7 [7, 0] (ws' := wX2 11 σ τ) (pc' := 163) (ls' := [(3, .int (X2_doing σ a1)), (0, .ref 0), (1, .int a1), (2, .int a2)]) (st' := [.int (X2_doing σ a1), .ref 0]) (ps := [(X2_doing σ a1).toInt = 0 + ((6 : Nat) : Int), 6 < 8, ¬ 7 < (X2_doing σ a1).toInt, a1 = 0]) rfl ⟨(by rw [c18]; decide), (by decide), (by rw [c18]; decide), c19, trivial⟩ ?_
                  obtain ⟨q20, hq20, h⟩ := am_bind h
                  refine hV.cOi (as := [.int (X2_doing σ a1)]) (rest := []) (st := [.int (X2_doing σ a1), .ref 0]) (ws2 := wX2 11 σ τ) (pc2 := 166) kX2_157 (c_X2_notDoing l n σ τ (X2_doing σ a1) q20 hq20) rfl rfl rfl rfl rfl rfl rfl rfl rfl ?_
                  by_cases c21 : q20 = 0
                  · rw [if_pos c21] at h
                    refine hV.run 3 [0] (ws' := wX2 11 σ τ) (pc' := 174) (ls' := [(3, .int (X2_doing σ a1)), (0, .ref 0), (1, .int a1), (2, .int a2)]) (st' := [.int 1]) (ps := [q20 = 0]) rfl ⟨c21, trivial⟩ ?_
                    cases h
                    exact hV.rz rfl rfl rfl (Or.inr rfl) hP
                  · rw [if_neg c21] at h
                    refine hV.run 2 [1] (ws' := wX2 11 σ τ) (pc' := 174) (ls' := [(3, .int (X2_doing σ a1)), (0, .ref 0), (1, .int a1), (2, .int a2)]) (st' := [.int 0]) (ps := [¬ q20 = 0]) rfl ⟨c21, trivial⟩ ?_
                    cases h
                    exact hV.rz rfl rfl rfl (Or.inl rfl) hP
                · rw [if_neg c19] at h
                  refine hV.run 6 [7, 1] (ws' := wX2 11 σ τ) (pc' := 174) (ls' := [(3, .int (X2_doing σ a1)), (0, .ref 0), (1, .int a1), (2, .int a2)]) (st' := [.int 0]) (ps := [(X2_doing σ a1).toInt = 0 + ((6 : Nat) : Int), 6 < 8, ¬ 7 < (X2_doing σ a1).toInt, ¬ a1 = 0]) rfl ⟨(by rw [c18]; decide), (by decide), (by rw [c18]; decide), c19, trivial⟩ ?_
                  cases h
                  exact hV.rz rfl rfl rfl (Or.inl rfl) hP
              · rw [if_neg c18] at h
                by_cases c22 : (X2_doing σ a1) = 7
                · rw [if_pos c22] at h
                  by_cases c23 : a1 = 0
                  · rw [if_pos c23] at h
                    refine hV.run 7 [8, 0] (ws' := wX2 11 σ τ) (pc' := 163) (ls' := [(3, .int (X2_doing σ a1)), (0, .ref 0), (1, .int a1), (2, .int a2)]) (st' := [.int (X2_doing σ a1), .ref 0]) (ps := [(X2_doing σ a1).toInt = 0 + ((7 : Nat) : Int), 7 < 8, ¬ 7 < (X2_doing σ a1).toInt, a1 = 0]) rfl ⟨(by rw [c22]; decide), (by decide), (by rw [c22]; decide), c23, trivial⟩ ?_
                    obtain ⟨q24, hq24, h⟩ := am_bind h
                    refine hV.cOi (as := [.int (X2_doing σ a1)]) (rest := []) (st := [.int (X2_doing σ a1), .ref 0]) (ws2 := wX2 11 σ τ) (pc2 := 166) kX2_157 (c_X2_notDoing l n σ τ (X2_doing σ a1) q24 hq24) rfl rfl rfl rfl rfl rfl rfl rfl rfl ?_
                    by_cases c25 : q24 = 0
                    · rw [if_pos c25] at h
                      refine hV.run 3 [0] (ws' := wX2 11 σ τ) (pc' := 174) (ls' := [(3, .int (X2_doing σ a1)), (0, .ref 0), (1, .int a1), (2, .int a2)]) (st' := [.int 1]) (ps := [q24 = 0]) rfl ⟨c25, trivial⟩ ?_
                      cases h
                      exact hV.rz rfl rfl rfl (Or.inr rfl) hP
                    · rw [if_neg c25] at h
                      refine hV.run 2 [1] (ws' := wX2 11 σ τ) (pc' := 174) (ls' := [(3, .int (X2_doing σ a1)), (0, .ref 0), (1, .int a1), (2, .int a2)]) (st' := [.int 0]) (ps := [¬ q24 = 0]) rfl ⟨c25, trivial⟩ ?_
                      cases h
                      exact hV.rz rfl rfl rfl (Or.inl rfl) hP
                  · rw [if_neg c23] at h
                    refine hV.run 6 [8, 1] (ws' := wX2 11 σ τ) (pc' := 174) (ls' := [(3, .int (X2_doing σ a1)), (0, .ref 0), (1, .int a1), (2, .int a2)]) (st' := [.int 0]) (ps := [(X2_doing σ a1).toInt = 0 + ((7 : Nat) : Int), 7 < 8, ¬ 7 < (X2_doing σ a1).toInt, ¬ a1 = 0]) rfl ⟨(by rw [c22]; decide), (by decide), (by rw [c22]; decide), c23, trivial⟩ ?_
                    cases h
                    exact hV.rz rfl rfl rfl (Or.inl rfl) hP
                · rw [if_neg c22] at h
                  refine hV.run 4 [0] (ws' := wX2 11 σ τ) (pc' := 176) (ls' := [(3, .int (X2_doing σ a1)), (0, .ref 0), (1, .int a1), (2, .int a2)]) (st' := [.int 0]) (ps := [(X2_doing σ a1).toInt < 0 ∨ 7 < (X2_doing σ a1).toInt]) rfl ⟨(by have c1_ := am_ne c1 (by decide : (0 : Int32).toInt = 0); have c6_ := am_ne c6 (by decide : (1 : Int32).toInt = 1); have c8_ := am_ne c8 (by decide : (2 : Int32).toInt = 2); have c9_ := am_ne c9 (by decide : (3 : Int32).toInt = 3); have c12_ := am_ne c12 (by decide : (4 : Int32).toInt = 4); have c15_ := am_ne c15 (by decide : (5 : Int32).toInt = 5); have c18_ := am_ne c18 (by decide : (6 : Int32).toInt = 6); have c22_ := am_ne c22 (by decide : (7 : Int32).toInt = 7); omega), trivial⟩ ?_
                  cases h
                  exact hV.rz rfl rfl rfl (Or.inl rfl) hP

