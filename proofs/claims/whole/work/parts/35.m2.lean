def X8_isAt (σ : am_M) (a1 : Int32) (a2 : Int32) : Option Bool := (X8_own σ a1 0).bind (fun q1 => if q1 = (-1) then (some false) else (X8_own σ a1 1).bind (fun q3 => if q3 = 0 then (if q1 < 0 ∨ 80 ≤ q1.toNatClampNeg then none else (if (σ 6 q1.toNatClampNeg) = a2 then (some true) else (some false))) else (some false)))
set_option maxRecDepth 100000 in
set_option maxHeartbeats 4000000 in
theorem c_X8_isAt (l : Launch) (σ : am_M) (a1 : Int32) (a2 : Int32) (res : Bool) (h : X8_isAt σ a1 a2 = some res) : am_Con l yX8_isAt cX8_isAt 4 (some .boolean) 2 [.ref 0, .int a1, .int a2] (wX8 σ) (fun (r : Option Value) (w : am_W) => r = (some (.int (b2i res))) ∧ w = (wX8 σ)) := by
  refine am_metn (n0 := 36) (own := RX8) (cd := am_cdT' tX8_isAt) (rf := am_rfL rfX8) (ini := false) rfl (by decide +kernel) rfl (by decide) dX8_isAt rfX8_ok (Nat.le_of_ble_eq_true rfl) ?_
  intro V hV
  have hP : (fun (r : Option Value) (w : am_W) => r = (some (.int (b2i res))) ∧ w = (wX8 σ)) (some (.int (b2i res))) (wX8 σ) := ⟨rfl, rfl⟩
  show V (wX8 σ) 0 [(0, .ref 0), (1, .int a1), (2, .int a2)] []
  unfold X8_isAt at h
  refine hV.run 3 [] (ws' := wX8 σ) (pc' := 3) (ls' := [(0, .ref 0), (1, .int a1), (2, .int a2)]) (st' := [.int 0, .int a1, .ref 0]) (ps := []) rfl trivial ?_
  obtain ⟨q1, hq1, h⟩ := am_bind h
  refine hV.cOi (as := [.int a1, .int 0]) (rest := []) (st := [.int 0, .int a1, .ref 0]) (ws2 := wX8 σ) (pc2 := 6) kX8_337 (c_X8_own l σ a1 0 q1 hq1) rfl rfl rfl rfl rfl rfl rfl rfl rfl ?_
  by_cases c2 : q1 = (-1)
  · rw [if_pos c2] at h
    refine hV.run 5 [1] (ws' := wX8 σ) (pc' := 36) (ls' := [(3, .int q1), (0, .ref 0), (1, .int a1), (2, .int a2)]) (st' := [.int 0]) (ps := [q1 = (-1)]) rfl ⟨c2, trivial⟩ ?_
    cases h
    exact hV.rz rfl rfl rfl (Or.inl rfl) hP
  · rw [if_neg c2] at h
    refine hV.run 7 [0] (ws' := wX8 σ) (pc' := 15) (ls' := [(3, .int q1), (0, .ref 0), (1, .int a1), (2, .int a2)]) (st' := [.int 1, .int a1, .ref 0]) (ps := [¬ q1 = (-1)]) rfl ⟨c2, trivial⟩ ?_
    obtain ⟨q3, hq3, h⟩ := am_bind h
    refine hV.cOi (as := [.int a1, .int 1]) (rest := []) (st := [.int 1, .int a1, .ref 0]) (ws2 := wX8 σ) (pc2 := 18) kX8_337 (c_X8_own l σ a1 1 q3 hq3) rfl rfl rfl rfl rfl rfl rfl rfl rfl ?_
    by_cases c4 : q3 = 0
    · rw [if_pos c4] at h
      by_cases g5 : q1 < 0 ∨ 80 ≤ q1.toNatClampNeg
      · rw [if_pos g5] at h; cases h
      rw [if_neg g5] at h
      by_cases c6 : (σ 6 q1.toNatClampNeg) = a2
      · rw [if_pos c6] at h
        refine hV.run 9 [0, 0] (ws' := wX8 σ) (pc' := 36) (ls' := [(3, .int q1), (0, .ref 0), (1, .int a1), (2, .int a2)]) (st' := [.int 1]) (ps := [q3 = 0, vp_in q1 80, (σ 6 q1.toNatClampNeg) = a2]) rfl ⟨c4, g5, c6, trivial⟩ ?_
        cases h
        exact hV.rz rfl rfl rfl (Or.inr rfl) hP
      · rw [if_neg c6] at h
        refine hV.run 8 [0, 1] (ws' := wX8 σ) (pc' := 36) (ls' := [(3, .int q1), (0, .ref 0), (1, .int a1), (2, .int a2)]) (st' := [.int 0]) (ps := [q3 = 0, vp_in q1 80, ¬ (σ 6 q1.toNatClampNeg) = a2]) rfl ⟨c4, g5, c6, trivial⟩ ?_
        cases h
        exact hV.rz rfl rfl rfl (Or.inl rfl) hP
    · rw [if_neg c4] at h
      refine hV.run 2 [1] (ws' := wX8 σ) (pc' := 36) (ls' := [(3, .int q1), (0, .ref 0), (1, .int a1), (2, .int a2)]) (st' := [.int 0]) (ps := [¬ q3 = 0]) rfl ⟨c4, trivial⟩ ?_
      cases h
      exact hV.rz rfl rfl rfl (Or.inl rfl) hP

def X8_lying_J61 (n : Nat) (σ : am_M) (kont3 : Int32 → Int32 → Int32 → Int32 → Option Int32) (l1 : Int32) (l2 : Int32) (l3 : Int32) (l4 : Int32) : Option Int32 := kont3 l1 l2 l3 (l4 + 1)
set_option maxRecDepth 100000 in
set_option maxHeartbeats 4000000 in
theorem p_X8_lying_J61 {l : Launch} {Post : Option Value → am_W → Prop} {V : am_VT} (hV : am_B l RX8 false 2 (am_cdT' tX8_lying) (am_rfL rfX8) (some .int) Post 36 V) (n : Nat) (σ : am_M) (res : Int32) (hP : Post (some (.int res)) (wX8 σ)) (kont3 : Int32 → Int32 → Int32 → Int32 → Option Int32) (hk3 : ∀ (l1 : Int32) (l2 : Int32) (l3 : Int32) (l4 : Int32), kont3 l1 l2 l3 l4 = some res → V (wX8 σ) 3 [(0, .ref 0), (1, .int l1), (2, .int l2), (3, .int l3), (4, .int l4)] []) (l1 : Int32) (l2 : Int32) (l3 : Int32) (l4 : Int32) (h : X8_lying_J61 n σ kont3 l1 l2 l3 l4 = some res) : V (wX8 σ) 61 [(0, .ref 0), (1, .int l1), (2, .int l2), (3, .int l3), (4, .int l4)] [] := by
  unfold X8_lying_J61 at h
  refine hV.run 2 [] (ws' := wX8 σ) (pc' := 3) (ls' := [(4, .int (l4 + 1)), (0, .ref 0), (1, .int l1), (2, .int l2), (3, .int l3)]) (st' := []) (ps := []) rfl trivial ?_
  refine hV.pick [1, 2, 3, 4, 0] (ls' := [(0, .ref 0), (1, .int l1), (2, .int l2), (3, .int l3), (4, .int (l4 + 1))]) rfl ?_
  exact hk3 l1 l2 l3 (l4 + 1) h
def X8_lying_B3 (n : Nat) (σ : am_M) (kont3 : Int32 → Int32 → Int32 → Int32 → Option Int32) (l1 : Int32) (l2 : Int32) (l3 : Int32) (l4 : Int32) : Option Int32 := if (X8_words σ) ≤ l4 then (some (-1)) else (if ((X8_wordAt l4) + 0) < 0 ∨ 1985 ≤ ((X8_wordAt l4) + 0).toNatClampNeg then none else (if (σ 15 ((X8_wordAt l4) + 0).toNatClampNeg) = l1 then (if ((X8_wordAt l4) + 1) < 0 ∨ 1985 ≤ ((X8_wordAt l4) + 1).toNatClampNeg then none else (if (σ 15 ((X8_wordAt l4) + 1).toNatClampNeg) = l2 then (if ((X8_wordAt l4) + 2) < 0 ∨ 1985 ≤ ((X8_wordAt l4) + 2).toNatClampNeg then none else (if (σ 15 ((X8_wordAt l4) + 2).toNatClampNeg) = l3 then (some l4) else (X8_lying_J61 n σ kont3 l1 l2 l3 l4))) else (X8_lying_J61 n σ kont3 l1 l2 l3 l4))) else (X8_lying_J61 n σ kont3 l1 l2 l3 l4)))
def X8_lying_L3 (n : Nat) (σ : am_M) : Nat → Int32 → Int32 → Int32 → Int32 → Option Int32
 | 0 => fun _ _ _ _ => none
 | k + 1 => fun l1 l2 l3 l4 => X8_lying_B3 n σ (X8_lying_L3 n σ k) l1 l2 l3 l4
set_option maxRecDepth 100000 in
set_option maxHeartbeats 4000000 in
theorem p_X8_lying_B3 {l : Launch} {Post : Option Value → am_W → Prop} {V : am_VT} (hV : am_B l RX8 false 2 (am_cdT' tX8_lying) (am_rfL rfX8) (some .int) Post 36 V) (n : Nat) (σ : am_M) (res : Int32) (hP : Post (some (.int res)) (wX8 σ)) (kont3 : Int32 → Int32 → Int32 → Int32 → Option Int32) (hk3 : ∀ (l1 : Int32) (l2 : Int32) (l3 : Int32) (l4 : Int32), kont3 l1 l2 l3 l4 = some res → V (wX8 σ) 3 [(0, .ref 0), (1, .int l1), (2, .int l2), (3, .int l3), (4, .int l4)] []) (l1 : Int32) (l2 : Int32) (l3 : Int32) (l4 : Int32) (h : X8_lying_B3 n σ kont3 l1 l2 l3 l4 = some res) : V (wX8 σ) 3 [(0, .ref 0), (1, .int l1), (2, .int l2), (3, .int l3), (4, .int l4)] [] := by
  unfold X8_lying_B3 at h
  refine hV.run 2 [] (ws' := wX8 σ) (pc' := 6) (ls' := [(0, .ref 0), (1, .int l1), (2, .int l2), (3, .int l3), (4, .int l4)]) (st' := [.ref 0, .int l4]) (ps := []) rfl trivial ?_
  refine hV.cOi (as := []) (rest := [.int l4]) (st := [.ref 0, .int l4]) (ws2 := wX8 σ) (pc2 := 9) kX8_363 (c_X8_words l σ) rfl rfl rfl rfl rfl rfl rfl rfl rfl ?_
  by_cases c1 : (X8_words σ) ≤ l4
  · rw [if_pos c1] at h
    refine hV.run 2 [1] (ws' := wX8 σ) (pc' := 68) (ls' := [(0, .ref 0), (1, .int l1), (2, .int l2), (3, .int l3), (4, .int l4)]) (st' := [.int (-1)]) (ps := [(X8_words σ) ≤ l4]) rfl ⟨c1, trivial⟩ ?_
    cases h
    exact hV.ri rfl rfl rfl hP
  · rw [if_neg c1] at h
    refine hV.run 2 [0] (ws' := wX8 σ) (pc' := 14) (ls' := [(0, .ref 0), (1, .int l1), (2, .int l2), (3, .int l3), (4, .int l4)]) (st' := [.int l4]) (ps := [¬ (X8_words σ) ≤ l4]) rfl ⟨c1, trivial⟩ ?_
    refine hV.cSi (as := [.int l4]) (js := []) (rest := []) (st := [.int l4]) (ws2 := wX8 σ) (pc2 := 17) kX8_366 (c_X8_wordAt l l4) rfl rfl rfl rfl rfl rfl rfl rfl rfl rfl ?_
    by_cases g2 : ((X8_wordAt l4) + 0) < 0 ∨ 1985 ≤ ((X8_wordAt l4) + 0).toNatClampNeg
    · rw [if_pos g2] at h; cases h
    rw [if_neg g2] at h
    by_cases c3 : (σ 15 ((X8_wordAt l4) + 0).toNatClampNeg) = l1
    · rw [if_pos c3] at h
      by_cases g4 : ((X8_wordAt l4) + 1) < 0 ∨ 1985 ≤ ((X8_wordAt l4) + 1).toNatClampNeg
      · rw [if_pos g4] at h; cases h
      rw [if_neg g4] at h
      by_cases c5 : (σ 15 ((X8_wordAt l4) + 1).toNatClampNeg) = l2
      · rw [if_pos c5] at h
        by_cases g6 : ((X8_wordAt l4) + 2) < 0 ∨ 1985 ≤ ((X8_wordAt l4) + 2).toNatClampNeg
        · rw [if_pos g6] at h; cases h
        rw [if_neg g6] at h
        by_cases c7 : (σ 15 ((X8_wordAt l4) + 2).toNatClampNeg) = l3
        · rw [if_pos c7] at h
          refine hV.run 26 [0, 0, 0] (ws' := wX8 σ) (pc' := 60) (ls' := [(5, .int (X8_wordAt l4)), (0, .ref 0), (1, .int l1), (2, .int l2), (3, .int l3), (4, .int l4)]) (st' := [.int l4]) (ps := [vp_in ((X8_wordAt l4) + 0) 1985, (σ 15 ((X8_wordAt l4) + 0).toNatClampNeg) = l1, vp_in ((X8_wordAt l4) + 1) 1985, (σ 15 ((X8_wordAt l4) + 1).toNatClampNeg) = l2, vp_in ((X8_wordAt l4) + 2) 1985, (σ 15 ((X8_wordAt l4) + 2).toNatClampNeg) = l3]) rfl ⟨g2, c3, g4, c5, g6, c7, trivial⟩ ?_
          cases h
          exact hV.ri rfl rfl rfl hP
        · rw [if_neg c7] at h
          refine hV.run 25 [0, 0, 1] (ws' := wX8 σ) (pc' := 61) (ls' := [(5, .int (X8_wordAt l4)), (0, .ref 0), (1, .int l1), (2, .int l2), (3, .int l3), (4, .int l4)]) (st' := []) (ps := [vp_in ((X8_wordAt l4) + 0) 1985, (σ 15 ((X8_wordAt l4) + 0).toNatClampNeg) = l1, vp_in ((X8_wordAt l4) + 1) 1985, (σ 15 ((X8_wordAt l4) + 1).toNatClampNeg) = l2, vp_in ((X8_wordAt l4) + 2) 1985, ¬ (σ 15 ((X8_wordAt l4) + 2).toNatClampNeg) = l3]) rfl ⟨g2, c3, g4, c5, g6, c7, trivial⟩ ?_
          refine hV.pick [1, 2, 3, 4, 5] (ls' := [(0, .ref 0), (1, .int l1), (2, .int l2), (3, .int l3), (4, .int l4)]) rfl ?_
          exact p_X8_lying_J61 hV n σ res hP kont3 hk3 l1 l2 l3 l4 h
      · rw [if_neg c5] at h
        refine hV.run 17 [0, 1] (ws' := wX8 σ) (pc' := 61) (ls' := [(5, .int (X8_wordAt l4)), (0, .ref 0), (1, .int l1), (2, .int l2), (3, .int l3), (4, .int l4)]) (st' := []) (ps := [vp_in ((X8_wordAt l4) + 0) 1985, (σ 15 ((X8_wordAt l4) + 0).toNatClampNeg) = l1, vp_in ((X8_wordAt l4) + 1) 1985, ¬ (σ 15 ((X8_wordAt l4) + 1).toNatClampNeg) = l2]) rfl ⟨g2, c3, g4, c5, trivial⟩ ?_
        refine hV.pick [1, 2, 3, 4, 5] (ls' := [(0, .ref 0), (1, .int l1), (2, .int l2), (3, .int l3), (4, .int l4)]) rfl ?_
        exact p_X8_lying_J61 hV n σ res hP kont3 hk3 l1 l2 l3 l4 h
    · rw [if_neg c3] at h
      refine hV.run 9 [1] (ws' := wX8 σ) (pc' := 61) (ls' := [(5, .int (X8_wordAt l4)), (0, .ref 0), (1, .int l1), (2, .int l2), (3, .int l3), (4, .int l4)]) (st' := []) (ps := [vp_in ((X8_wordAt l4) + 0) 1985, ¬ (σ 15 ((X8_wordAt l4) + 0).toNatClampNeg) = l1]) rfl ⟨g2, c3, trivial⟩ ?_
      refine hV.pick [1, 2, 3, 4, 5] (ls' := [(0, .ref 0), (1, .int l1), (2, .int l2), (3, .int l3), (4, .int l4)]) rfl ?_
      exact p_X8_lying_J61 hV n σ res hP kont3 hk3 l1 l2 l3 l4 h
theorem p_X8_lying_L3 {l : Launch} {Post : Option Value → am_W → Prop} {V : am_VT} (hV : am_B l RX8 false 2 (am_cdT' tX8_lying) (am_rfL rfX8) (some .int) Post 36 V) (n : Nat) (σ : am_M) (res : Int32) (hP : Post (some (.int res)) (wX8 σ)) : ∀ (k : Nat) (l1 : Int32) (l2 : Int32) (l3 : Int32) (l4 : Int32) (h : X8_lying_L3 n σ k l1 l2 l3 l4 = some res), V (wX8 σ) 3 [(0, .ref 0), (1, .int l1), (2, .int l2), (3, .int l3), (4, .int l4)] [] := by
  intro k
  induction k with
  | zero => intro l1 l2 l3 l4 h; cases h
  | succ k ih => intro l1 l2 l3 l4 h; exact p_X8_lying_B3 hV n σ res hP _ ih l1 l2 l3 l4 h
def X8_lying (n : Nat) (σ : am_M) (a1 : Int32) (a2 : Int32) (a3 : Int32) : Option Int32 := X8_lying_L3 n σ n a1 a2 a3 0
set_option maxRecDepth 100000 in
set_option maxHeartbeats 4000000 in
theorem c_X8_lying (l : Launch) (n : Nat) (σ : am_M) (a1 : Int32) (a2 : Int32) (a3 : Int32) (res : Int32) (h : X8_lying n σ a1 a2 a3 = some res) : am_Con l yX8_lying cX8_lying 6 (some .int) 2 [.ref 0, .int a1, .int a2, .int a3] (wX8 σ) (fun (r : Option Value) (w : am_W) => r = (some (.int res)) ∧ w = (wX8 σ)) := by
  refine am_metn (n0 := 36) (own := RX8) (cd := am_cdT' tX8_lying) (rf := am_rfL rfX8) (ini := false) rfl (by decide +kernel) rfl (by decide) dX8_lying rfX8_ok (Nat.le_of_ble_eq_true rfl) ?_
  intro V hV
  have hP : (fun (r : Option Value) (w : am_W) => r = (some (.int res)) ∧ w = (wX8 σ)) (some (.int res)) (wX8 σ) := ⟨rfl, rfl⟩
  show V (wX8 σ) 0 [(0, .ref 0), (1, .int a1), (2, .int a2), (3, .int a3)] []
  unfold X8_lying at h
  refine hV.run 2 [] (ws' := wX8 σ) (pc' := 3) (ls' := [(4, .int 0), (0, .ref 0), (1, .int a1), (2, .int a2), (3, .int a3)]) (st' := []) (ps := []) rfl trivial ?_
  refine hV.pick [1, 2, 3, 4, 0] (ls' := [(0, .ref 0), (1, .int a1), (2, .int a2), (3, .int a3), (4, .int 0)]) rfl ?_
  exact p_X8_lying_L3 hV n σ res hP n a1 a2 a3 0 h

def X8_sent_J65 (n : Nat) (σ : am_M) (kont5 : Int32 → Int32 → Int32 → Int32 → Option Int32) (l1 : Int32) (l2 : Int32) (l4 : Int32) (s0 : Int32) (s1 : Int32) : Option Int32 := kont5 l1 l2 (s1 + s0) (l4 + 1)
set_option maxRecDepth 100000 in
set_option maxHeartbeats 4000000 in
theorem p_X8_sent_J65 {l : Launch} {Post : Option Value → am_W → Prop} {V : am_VT} (hV : am_B l RX8 false 2 (am_cdT' tX8_sent) (am_rfL rfX8) (some .int) Post 36 V) (n : Nat) (σ : am_M) (res : Int32) (hP : Post (some (.int res)) (wX8 σ)) (kont5 : Int32 → Int32 → Int32 → Int32 → Option Int32) (hk5 : ∀ (l1 : Int32) (l2 : Int32) (l3 : Int32) (l4 : Int32), kont5 l1 l2 l3 l4 = some res → V (wX8 σ) 5 [(0, .ref 0), (1, .int l1), (2, .int l2), (3, .int l3), (4, .int l4)] []) (l1 : Int32) (l2 : Int32) (l4 : Int32) (s0 : Int32) (s1 : Int32) (h : X8_sent_J65 n σ kont5 l1 l2 l4 s0 s1 = some res) : V (wX8 σ) 65 [(0, .ref 0), (1, .int l1), (2, .int l2), (4, .int l4)] [.int s0, .int s1] := by
  unfold X8_sent_J65 at h
  refine hV.run 4 [] (ws' := wX8 σ) (pc' := 5) (ls' := [(4, .int (l4 + 1)), (3, .int (s1 + s0)), (0, .ref 0), (1, .int l1), (2, .int l2)]) (st' := []) (ps := []) rfl trivial ?_
  refine hV.pick [2, 3, 4, 1, 0] (ls' := [(0, .ref 0), (1, .int l1), (2, .int l2), (3, .int (s1 + s0)), (4, .int (l4 + 1))]) rfl ?_
  exact hk5 l1 l2 (s1 + s0) (l4 + 1) h
def X8_sent_J64 (n : Nat) (σ : am_M) (kont5 : Int32 → Int32 → Int32 → Int32 → Option Int32) (l1 : Int32) (l2 : Int32) (l4 : Int32) (s0 : Int32) : Option Int32 := X8_sent_J65 n σ kont5 l1 l2 l4 0 s0
set_option maxRecDepth 100000 in
set_option maxHeartbeats 4000000 in
theorem p_X8_sent_J64 {l : Launch} {Post : Option Value → am_W → Prop} {V : am_VT} (hV : am_B l RX8 false 2 (am_cdT' tX8_sent) (am_rfL rfX8) (some .int) Post 36 V) (n : Nat) (σ : am_M) (res : Int32) (hP : Post (some (.int res)) (wX8 σ)) (kont5 : Int32 → Int32 → Int32 → Int32 → Option Int32) (hk5 : ∀ (l1 : Int32) (l2 : Int32) (l3 : Int32) (l4 : Int32), kont5 l1 l2 l3 l4 = some res → V (wX8 σ) 5 [(0, .ref 0), (1, .int l1), (2, .int l2), (3, .int l3), (4, .int l4)] []) (l1 : Int32) (l2 : Int32) (l4 : Int32) (s0 : Int32) (h : X8_sent_J64 n σ kont5 l1 l2 l4 s0 = some res) : V (wX8 σ) 64 [(0, .ref 0), (1, .int l1), (2, .int l2), (4, .int l4)] [.int s0] := by
  unfold X8_sent_J64 at h
  refine hV.run 1 [] (ws' := wX8 σ) (pc' := 65) (ls' := [(0, .ref 0), (1, .int l1), (2, .int l2), (4, .int l4)]) (st' := [.int 0, .int s0]) (ps := []) rfl trivial ?_
  exact p_X8_sent_J65 hV n σ res hP kont5 hk5 l1 l2 l4 0 s0 h
def X8_sent_B5 (n : Nat) (σ : am_M) (kont5 : Int32 → Int32 → Int32 → Int32 → Option Int32) (l1 : Int32) (l2 : Int32) (l3 : Int32) (l4 : Int32) : Option Int32 := if (X8_words σ) ≤ l4 then (some l3) else (if ((X8_wordAt l4) + 0) < 0 ∨ 1985 ≤ ((X8_wordAt l4) + 0).toNatClampNeg then none else (if (σ 15 ((X8_wordAt l4) + 0).toNatClampNeg) = l1 then (if ((X8_wordAt l4) + 1) < 0 ∨ 1985 ≤ ((X8_wordAt l4) + 1).toNatClampNeg then none else (if (σ 15 ((X8_wordAt l4) + 1).toNatClampNeg) = l2 then (if ((X8_wordAt l4) + 5) < 0 ∨ 1985 ≤ ((X8_wordAt l4) + 5).toNatClampNeg then none else (if (σ 15 ((X8_wordAt l4) + 5).toNatClampNeg) = 0 then (X8_sent_J65 n σ kont5 l1 l2 l4 1 l3) else (X8_sent_J64 n σ kont5 l1 l2 l4 l3))) else (X8_sent_J64 n σ kont5 l1 l2 l4 l3))) else (X8_sent_J64 n σ kont5 l1 l2 l4 l3)))
def X8_sent_L5 (n : Nat) (σ : am_M) : Nat → Int32 → Int32 → Int32 → Int32 → Option Int32
 | 0 => fun _ _ _ _ => none
 | k + 1 => fun l1 l2 l3 l4 => X8_sent_B5 n σ (X8_sent_L5 n σ k) l1 l2 l3 l4
set_option maxRecDepth 100000 in
set_option maxHeartbeats 4000000 in
theorem p_X8_sent_B5 {l : Launch} {Post : Option Value → am_W → Prop} {V : am_VT} (hV : am_B l RX8 false 2 (am_cdT' tX8_sent) (am_rfL rfX8) (some .int) Post 36 V) (n : Nat) (σ : am_M) (res : Int32) (hP : Post (some (.int res)) (wX8 σ)) (kont5 : Int32 → Int32 → Int32 → Int32 → Option Int32) (hk5 : ∀ (l1 : Int32) (l2 : Int32) (l3 : Int32) (l4 : Int32), kont5 l1 l2 l3 l4 = some res → V (wX8 σ) 5 [(0, .ref 0), (1, .int l1), (2, .int l2), (3, .int l3), (4, .int l4)] []) (l1 : Int32) (l2 : Int32) (l3 : Int32) (l4 : Int32) (h : X8_sent_B5 n σ kont5 l1 l2 l3 l4 = some res) : V (wX8 σ) 5 [(0, .ref 0), (1, .int l1), (2, .int l2), (3, .int l3), (4, .int l4)] [] := by
  unfold X8_sent_B5 at h
  refine hV.run 2 [] (ws' := wX8 σ) (pc' := 8) (ls' := [(0, .ref 0), (1, .int l1), (2, .int l2), (3, .int l3), (4, .int l4)]) (st' := [.ref 0, .int l4]) (ps := []) rfl trivial ?_
  refine hV.cOi (as := []) (rest := [.int l4]) (st := [.ref 0, .int l4]) (ws2 := wX8 σ) (pc2 := 11) kX8_363 (c_X8_words l σ) rfl rfl rfl rfl rfl rfl rfl rfl rfl ?_
  by_cases c1 : (X8_words σ) ≤ l4
  · rw [if_pos c1] at h
    refine hV.run 2 [1] (ws' := wX8 σ) (pc' := 74) (ls' := [(0, .ref 0), (1, .int l1), (2, .int l2), (3, .int l3), (4, .int l4)]) (st' := [.int l3]) (ps := [(X8_words σ) ≤ l4]) rfl ⟨c1, trivial⟩ ?_
    cases h
    exact hV.ri rfl rfl rfl hP
  · rw [if_neg c1] at h
    refine hV.run 2 [0] (ws' := wX8 σ) (pc' := 16) (ls' := [(0, .ref 0), (1, .int l1), (2, .int l2), (3, .int l3), (4, .int l4)]) (st' := [.int l4]) (ps := [¬ (X8_words σ) ≤ l4]) rfl ⟨c1, trivial⟩ ?_
    refine hV.cSi (as := [.int l4]) (js := []) (rest := []) (st := [.int l4]) (ws2 := wX8 σ) (pc2 := 19) kX8_366 (c_X8_wordAt l l4) rfl rfl rfl rfl rfl rfl rfl rfl rfl rfl ?_
    by_cases g2 : ((X8_wordAt l4) + 0) < 0 ∨ 1985 ≤ ((X8_wordAt l4) + 0).toNatClampNeg
    · rw [if_pos g2] at h; cases h
    rw [if_neg g2] at h
    by_cases c3 : (σ 15 ((X8_wordAt l4) + 0).toNatClampNeg) = l1
    · rw [if_pos c3] at h
      by_cases g4 : ((X8_wordAt l4) + 1) < 0 ∨ 1985 ≤ ((X8_wordAt l4) + 1).toNatClampNeg
      · rw [if_pos g4] at h; cases h
      rw [if_neg g4] at h
      by_cases c5 : (σ 15 ((X8_wordAt l4) + 1).toNatClampNeg) = l2
      · rw [if_pos c5] at h
        by_cases g6 : ((X8_wordAt l4) + 5) < 0 ∨ 1985 ≤ ((X8_wordAt l4) + 5).toNatClampNeg
        · rw [if_pos g6] at h; cases h
        rw [if_neg g6] at h
        by_cases c7 : (σ 15 ((X8_wordAt l4) + 5).toNatClampNeg) = 0
        · rw [if_pos c7] at h
          refine hV.run 27 [0, 0, 0] (ws' := wX8 σ) (pc' := 65) (ls' := [(5, .int (X8_wordAt l4)), (0, .ref 0), (1, .int l1), (2, .int l2), (3, .int l3), (4, .int l4)]) (st' := [.int 1, .int l3]) (ps := [vp_in ((X8_wordAt l4) + 0) 1985, (σ 15 ((X8_wordAt l4) + 0).toNatClampNeg) = l1, vp_in ((X8_wordAt l4) + 1) 1985, (σ 15 ((X8_wordAt l4) + 1).toNatClampNeg) = l2, vp_in ((X8_wordAt l4) + 5) 1985, (σ 15 ((X8_wordAt l4) + 5).toNatClampNeg) = 0]) rfl ⟨g2, c3, g4, c5, g6, c7, trivial⟩ ?_
          refine hV.pick [1, 2, 3, 5] (ls' := [(0, .ref 0), (1, .int l1), (2, .int l2), (4, .int l4)]) rfl ?_
          exact p_X8_sent_J65 hV n σ res hP kont5 hk5 l1 l2 l4 1 l3 h
        · rw [if_neg c7] at h
          refine hV.run 25 [0, 0, 1] (ws' := wX8 σ) (pc' := 64) (ls' := [(5, .int (X8_wordAt l4)), (0, .ref 0), (1, .int l1), (2, .int l2), (3, .int l3), (4, .int l4)]) (st' := [.int l3]) (ps := [vp_in ((X8_wordAt l4) + 0) 1985, (σ 15 ((X8_wordAt l4) + 0).toNatClampNeg) = l1, vp_in ((X8_wordAt l4) + 1) 1985, (σ 15 ((X8_wordAt l4) + 1).toNatClampNeg) = l2, vp_in ((X8_wordAt l4) + 5) 1985, ¬ (σ 15 ((X8_wordAt l4) + 5).toNatClampNeg) = 0]) rfl ⟨g2, c3, g4, c5, g6, c7, trivial⟩ ?_
          refine hV.pick [1, 2, 3, 5] (ls' := [(0, .ref 0), (1, .int l1), (2, .int l2), (4, .int l4)]) rfl ?_
          exact p_X8_sent_J64 hV n σ res hP kont5 hk5 l1 l2 l4 l3 h
      · rw [if_neg c5] at h
        refine hV.run 18 [0, 1] (ws' := wX8 σ) (pc' := 64) (ls' := [(5, .int (X8_wordAt l4)), (0, .ref 0), (1, .int l1), (2, .int l2), (3, .int l3), (4, .int l4)]) (st' := [.int l3]) (ps := [vp_in ((X8_wordAt l4) + 0) 1985, (σ 15 ((X8_wordAt l4) + 0).toNatClampNeg) = l1, vp_in ((X8_wordAt l4) + 1) 1985, ¬ (σ 15 ((X8_wordAt l4) + 1).toNatClampNeg) = l2]) rfl ⟨g2, c3, g4, c5, trivial⟩ ?_
        refine hV.pick [1, 2, 3, 5] (ls' := [(0, .ref 0), (1, .int l1), (2, .int l2), (4, .int l4)]) rfl ?_
        exact p_X8_sent_J64 hV n σ res hP kont5 hk5 l1 l2 l4 l3 h
    · rw [if_neg c3] at h
      refine hV.run 10 [1] (ws' := wX8 σ) (pc' := 64) (ls' := [(5, .int (X8_wordAt l4)), (0, .ref 0), (1, .int l1), (2, .int l2), (3, .int l3), (4, .int l4)]) (st' := [.int l3]) (ps := [vp_in ((X8_wordAt l4) + 0) 1985, ¬ (σ 15 ((X8_wordAt l4) + 0).toNatClampNeg) = l1]) rfl ⟨g2, c3, trivial⟩ ?_
      refine hV.pick [1, 2, 3, 5] (ls' := [(0, .ref 0), (1, .int l1), (2, .int l2), (4, .int l4)]) rfl ?_
      exact p_X8_sent_J64 hV n σ res hP kont5 hk5 l1 l2 l4 l3 h
theorem p_X8_sent_L5 {l : Launch} {Post : Option Value → am_W → Prop} {V : am_VT} (hV : am_B l RX8 false 2 (am_cdT' tX8_sent) (am_rfL rfX8) (some .int) Post 36 V) (n : Nat) (σ : am_M) (res : Int32) (hP : Post (some (.int res)) (wX8 σ)) : ∀ (k : Nat) (l1 : Int32) (l2 : Int32) (l3 : Int32) (l4 : Int32) (h : X8_sent_L5 n σ k l1 l2 l3 l4 = some res), V (wX8 σ) 5 [(0, .ref 0), (1, .int l1), (2, .int l2), (3, .int l3), (4, .int l4)] [] := by
  intro k
  induction k with
  | zero => intro l1 l2 l3 l4 h; cases h
  | succ k ih => intro l1 l2 l3 l4 h; exact p_X8_sent_B5 hV n σ res hP _ ih l1 l2 l3 l4 h
def X8_sent (n : Nat) (σ : am_M) (a1 : Int32) (a2 : Int32) : Option Int32 := X8_sent_L5 n σ n a1 a2 0 0
set_option maxRecDepth 100000 in
set_option maxHeartbeats 4000000 in
theorem c_X8_sent (l : Launch) (n : Nat) (σ : am_M) (a1 : Int32) (a2 : Int32) (res : Int32) (h : X8_sent n σ a1 a2 = some res) : am_Con l yX8_sent cX8_sent 6 (some .int) 2 [.ref 0, .int a1, .int a2] (wX8 σ) (fun (r : Option Value) (w : am_W) => r = (some (.int res)) ∧ w = (wX8 σ)) := by
  refine am_metn (n0 := 36) (own := RX8) (cd := am_cdT' tX8_sent) (rf := am_rfL rfX8) (ini := false) rfl (by decide +kernel) rfl (by decide) dX8_sent rfX8_ok (Nat.le_of_ble_eq_true rfl) ?_
  intro V hV
  have hP : (fun (r : Option Value) (w : am_W) => r = (some (.int res)) ∧ w = (wX8 σ)) (some (.int res)) (wX8 σ) := ⟨rfl, rfl⟩
  show V (wX8 σ) 0 [(0, .ref 0), (1, .int a1), (2, .int a2)] []
  unfold X8_sent at h
  refine hV.run 4 [] (ws' := wX8 σ) (pc' := 5) (ls' := [(4, .int 0), (3, .int 0), (0, .ref 0), (1, .int a1), (2, .int a2)]) (st' := []) (ps := []) rfl trivial ?_
  refine hV.pick [2, 3, 4, 1, 0] (ls' := [(0, .ref 0), (1, .int a1), (2, .int a2), (3, .int 0), (4, .int 0)]) rfl ?_
  exact p_X8_sent_L5 hV n σ res hP n a1 a2 0 0 h

def X8_begun_J60 (n : Nat) (σ : am_M) (kont4 : Int32 → Int32 → Int32 → Option Int32) (l1 : Int32) (l3 : Int32) (s0 : Int32) (s1 : Int32) : Option Int32 := kont4 l1 (s1 ||| s0) (l3 + 1)
set_option maxRecDepth 100000 in
set_option maxHeartbeats 4000000 in
theorem p_X8_begun_J60 {l : Launch} {Post : Option Value → am_W → Prop} {V : am_VT} (hV : am_B l RX8 false 2 (am_cdT' tX8_begun) (am_rfL rfX8) (some .int) Post 36 V) (n : Nat) (σ : am_M) (res : Int32) (hP : Post (some (.int res)) (wX8 σ)) (kont4 : Int32 → Int32 → Int32 → Option Int32) (hk4 : ∀ (l1 : Int32) (l2 : Int32) (l3 : Int32), kont4 l1 l2 l3 = some res → V (wX8 σ) 4 [(0, .ref 0), (1, .int l1), (2, .int l2), (3, .int l3)] []) (l1 : Int32) (l3 : Int32) (s0 : Int32) (s1 : Int32) (h : X8_begun_J60 n σ kont4 l1 l3 s0 s1 = some res) : V (wX8 σ) 60 [(0, .ref 0), (1, .int l1), (3, .int l3)] [.int s0, .int s1] := by
  unfold X8_begun_J60 at h
  refine hV.run 4 [] (ws' := wX8 σ) (pc' := 4) (ls' := [(3, .int (l3 + 1)), (2, .int (s1 ||| s0)), (0, .ref 0), (1, .int l1)]) (st' := []) (ps := []) rfl trivial ?_
  refine hV.pick [2, 3, 1, 0] (ls' := [(0, .ref 0), (1, .int l1), (2, .int (s1 ||| s0)), (3, .int (l3 + 1))]) rfl ?_
  exact hk4 l1 (s1 ||| s0) (l3 + 1) h
def X8_begun_J59 (n : Nat) (σ : am_M) (kont4 : Int32 → Int32 → Int32 → Option Int32) (l1 : Int32) (l3 : Int32) (s0 : Int32) : Option Int32 := X8_begun_J60 n σ kont4 l1 l3 0 s0
set_option maxRecDepth 100000 in
set_option maxHeartbeats 4000000 in
theorem p_X8_begun_J59 {l : Launch} {Post : Option Value → am_W → Prop} {V : am_VT} (hV : am_B l RX8 false 2 (am_cdT' tX8_begun) (am_rfL rfX8) (some .int) Post 36 V) (n : Nat) (σ : am_M) (res : Int32) (hP : Post (some (.int res)) (wX8 σ)) (kont4 : Int32 → Int32 → Int32 → Option Int32) (hk4 : ∀ (l1 : Int32) (l2 : Int32) (l3 : Int32), kont4 l1 l2 l3 = some res → V (wX8 σ) 4 [(0, .ref 0), (1, .int l1), (2, .int l2), (3, .int l3)] []) (l1 : Int32) (l3 : Int32) (s0 : Int32) (h : X8_begun_J59 n σ kont4 l1 l3 s0 = some res) : V (wX8 σ) 59 [(0, .ref 0), (1, .int l1), (3, .int l3)] [.int s0] := by
  unfold X8_begun_J59 at h
  refine hV.run 1 [] (ws' := wX8 σ) (pc' := 60) (ls' := [(0, .ref 0), (1, .int l1), (3, .int l3)]) (st' := [.int 0, .int s0]) (ps := []) rfl trivial ?_
  exact p_X8_begun_J60 hV n σ res hP kont4 hk4 l1 l3 0 s0 h
def X8_begun_B4 (n : Nat) (σ : am_M) (kont4 : Int32 → Int32 → Int32 → Option Int32) (l1 : Int32) (l2 : Int32) (l3 : Int32) : Option Int32 := if (X8_words σ) ≤ l3 then (some l2) else (if ((X8_wordAt l3) + 0) < 0 ∨ 1985 ≤ ((X8_wordAt l3) + 0).toNatClampNeg then none else (if (σ 15 ((X8_wordAt l3) + 0).toNatClampNeg) = l1 then (if ((X8_wordAt l3) + 5) < 0 ∨ 1985 ≤ ((X8_wordAt l3) + 5).toNatClampNeg then none else (if (σ 15 ((X8_wordAt l3) + 5).toNatClampNeg) = 1 then (if ((X8_wordAt l3) + 1) < 0 ∨ 1985 ≤ ((X8_wordAt l3) + 1).toNatClampNeg then none else (X8_begun_J60 n σ kont4 l1 l3 (1 <<< ((σ 15 ((X8_wordAt l3) + 1).toNatClampNeg) &&& 31)) l2)) else (X8_begun_J59 n σ kont4 l1 l3 l2))) else (X8_begun_J59 n σ kont4 l1 l3 l2)))
def X8_begun_L4 (n : Nat) (σ : am_M) : Nat → Int32 → Int32 → Int32 → Option Int32
 | 0 => fun _ _ _ => none
 | k + 1 => fun l1 l2 l3 => X8_begun_B4 n σ (X8_begun_L4 n σ k) l1 l2 l3
set_option maxRecDepth 100000 in
set_option maxHeartbeats 4000000 in
theorem p_X8_begun_B4 {l : Launch} {Post : Option Value → am_W → Prop} {V : am_VT} (hV : am_B l RX8 false 2 (am_cdT' tX8_begun) (am_rfL rfX8) (some .int) Post 36 V) (n : Nat) (σ : am_M) (res : Int32) (hP : Post (some (.int res)) (wX8 σ)) (kont4 : Int32 → Int32 → Int32 → Option Int32) (hk4 : ∀ (l1 : Int32) (l2 : Int32) (l3 : Int32), kont4 l1 l2 l3 = some res → V (wX8 σ) 4 [(0, .ref 0), (1, .int l1), (2, .int l2), (3, .int l3)] []) (l1 : Int32) (l2 : Int32) (l3 : Int32) (h : X8_begun_B4 n σ kont4 l1 l2 l3 = some res) : V (wX8 σ) 4 [(0, .ref 0), (1, .int l1), (2, .int l2), (3, .int l3)] [] := by
  unfold X8_begun_B4 at h
  refine hV.run 2 [] (ws' := wX8 σ) (pc' := 6) (ls' := [(0, .ref 0), (1, .int l1), (2, .int l2), (3, .int l3)]) (st' := [.ref 0, .int l3]) (ps := []) rfl trivial ?_
  refine hV.cOi (as := []) (rest := [.int l3]) (st := [.ref 0, .int l3]) (ws2 := wX8 σ) (pc2 := 9) kX8_363 (c_X8_words l σ) rfl rfl rfl rfl rfl rfl rfl rfl rfl ?_
  by_cases c1 : (X8_words σ) ≤ l3
  · rw [if_pos c1] at h
    refine hV.run 2 [1] (ws' := wX8 σ) (pc' := 69) (ls' := [(0, .ref 0), (1, .int l1), (2, .int l2), (3, .int l3)]) (st' := [.int l2]) (ps := [(X8_words σ) ≤ l3]) rfl ⟨c1, trivial⟩ ?_
    cases h
    exact hV.ri rfl rfl rfl hP
  · rw [if_neg c1] at h
    refine hV.run 2 [0] (ws' := wX8 σ) (pc' := 13) (ls' := [(0, .ref 0), (1, .int l1), (2, .int l2), (3, .int l3)]) (st' := [.int l3]) (ps := [¬ (X8_words σ) ≤ l3]) rfl ⟨c1, trivial⟩ ?_
    refine hV.cSi (as := [.int l3]) (js := []) (rest := []) (st := [.int l3]) (ws2 := wX8 σ) (pc2 := 16) kX8_366 (c_X8_wordAt l l3) rfl rfl rfl rfl rfl rfl rfl rfl rfl rfl ?_
    by_cases g2 : ((X8_wordAt l3) + 0) < 0 ∨ 1985 ≤ ((X8_wordAt l3) + 0).toNatClampNeg
    · rw [if_pos g2] at h; cases h
    rw [if_neg g2] at h
    by_cases c3 : (σ 15 ((X8_wordAt l3) + 0).toNatClampNeg) = l1
    · rw [if_pos c3] at h
      by_cases g4 : ((X8_wordAt l3) + 5) < 0 ∨ 1985 ≤ ((X8_wordAt l3) + 5).toNatClampNeg
      · rw [if_pos g4] at h; cases h
      rw [if_neg g4] at h
      by_cases c5 : (σ 15 ((X8_wordAt l3) + 5).toNatClampNeg) = 1
      · rw [if_pos c5] at h
        by_cases g6 : ((X8_wordAt l3) + 1) < 0 ∨ 1985 ≤ ((X8_wordAt l3) + 1).toNatClampNeg
        · rw [if_pos g6] at h; cases h
        rw [if_neg g6] at h
        refine hV.run 27 [0, 0] (ws' := wX8 σ) (pc' := 60) (ls' := [(4, .int (X8_wordAt l3)), (0, .ref 0), (1, .int l1), (2, .int l2), (3, .int l3)]) (st' := [.int (1 <<< ((σ 15 ((X8_wordAt l3) + 1).toNatClampNeg) &&& 31)), .int l2]) (ps := [vp_in ((X8_wordAt l3) + 0) 1985, (σ 15 ((X8_wordAt l3) + 0).toNatClampNeg) = l1, vp_in ((X8_wordAt l3) + 5) 1985, (σ 15 ((X8_wordAt l3) + 5).toNatClampNeg) = 1, vp_in ((X8_wordAt l3) + 1) 1985]) rfl ⟨g2, c3, g4, c5, g6, trivial⟩ ?_
        refine hV.pick [1, 2, 4] (ls' := [(0, .ref 0), (1, .int l1), (3, .int l3)]) rfl ?_
        exact p_X8_begun_J60 hV n σ res hP kont4 hk4 l1 l3 (1 <<< ((σ 15 ((X8_wordAt l3) + 1).toNatClampNeg) &&& 31)) l2 h
      · rw [if_neg c5] at h
        refine hV.run 18 [0, 1] (ws' := wX8 σ) (pc' := 59) (ls' := [(4, .int (X8_wordAt l3)), (0, .ref 0), (1, .int l1), (2, .int l2), (3, .int l3)]) (st' := [.int l2]) (ps := [vp_in ((X8_wordAt l3) + 0) 1985, (σ 15 ((X8_wordAt l3) + 0).toNatClampNeg) = l1, vp_in ((X8_wordAt l3) + 5) 1985, ¬ (σ 15 ((X8_wordAt l3) + 5).toNatClampNeg) = 1]) rfl ⟨g2, c3, g4, c5, trivial⟩ ?_
        refine hV.pick [1, 2, 4] (ls' := [(0, .ref 0), (1, .int l1), (3, .int l3)]) rfl ?_
        exact p_X8_begun_J59 hV n σ res hP kont4 hk4 l1 l3 l2 h
    · rw [if_neg c3] at h
      refine hV.run 10 [1] (ws' := wX8 σ) (pc' := 59) (ls' := [(4, .int (X8_wordAt l3)), (0, .ref 0), (1, .int l1), (2, .int l2), (3, .int l3)]) (st' := [.int l2]) (ps := [vp_in ((X8_wordAt l3) + 0) 1985, ¬ (σ 15 ((X8_wordAt l3) + 0).toNatClampNeg) = l1]) rfl ⟨g2, c3, trivial⟩ ?_
      refine hV.pick [1, 2, 4] (ls' := [(0, .ref 0), (1, .int l1), (3, .int l3)]) rfl ?_
      exact p_X8_begun_J59 hV n σ res hP kont4 hk4 l1 l3 l2 h
theorem p_X8_begun_L4 {l : Launch} {Post : Option Value → am_W → Prop} {V : am_VT} (hV : am_B l RX8 false 2 (am_cdT' tX8_begun) (am_rfL rfX8) (some .int) Post 36 V) (n : Nat) (σ : am_M) (res : Int32) (hP : Post (some (.int res)) (wX8 σ)) : ∀ (k : Nat) (l1 : Int32) (l2 : Int32) (l3 : Int32) (h : X8_begun_L4 n σ k l1 l2 l3 = some res), V (wX8 σ) 4 [(0, .ref 0), (1, .int l1), (2, .int l2), (3, .int l3)] [] := by
  intro k
  induction k with
  | zero => intro l1 l2 l3 h; cases h
  | succ k ih => intro l1 l2 l3 h; exact p_X8_begun_B4 hV n σ res hP _ ih l1 l2 l3 h
def X8_begun (n : Nat) (σ : am_M) (a1 : Int32) : Option Int32 := X8_begun_L4 n σ n a1 0 0
set_option maxRecDepth 100000 in
set_option maxHeartbeats 4000000 in
theorem c_X8_begun (l : Launch) (n : Nat) (σ : am_M) (a1 : Int32) (res : Int32) (h : X8_begun n σ a1 = some res) : am_Con l yX8_begun cX8_begun 5 (some .int) 2 [.ref 0, .int a1] (wX8 σ) (fun (r : Option Value) (w : am_W) => r = (some (.int res)) ∧ w = (wX8 σ)) := by
  refine am_metn (n0 := 36) (own := RX8) (cd := am_cdT' tX8_begun) (rf := am_rfL rfX8) (ini := false) rfl (by decide +kernel) rfl (by decide) dX8_begun rfX8_ok (Nat.le_of_ble_eq_true rfl) ?_
  intro V hV
  have hP : (fun (r : Option Value) (w : am_W) => r = (some (.int res)) ∧ w = (wX8 σ)) (some (.int res)) (wX8 σ) := ⟨rfl, rfl⟩
  show V (wX8 σ) 0 [(0, .ref 0), (1, .int a1)] []
  unfold X8_begun at h
  refine hV.run 4 [] (ws' := wX8 σ) (pc' := 4) (ls' := [(3, .int 0), (2, .int 0), (0, .ref 0), (1, .int a1)]) (st' := []) (ps := []) rfl trivial ?_
  refine hV.pick [2, 3, 1, 0] (ls' := [(0, .ref 0), (1, .int a1), (2, .int 0), (3, .int 0)]) rfl ?_
  exact p_X8_begun_L4 hV n σ res hP n a1 0 0 h

def X8_farOf (σ : am_M) (a1 : Int32) (a2 : Int32) : Int32 := ((σ 0 5) + ((J9_abs_0f7a4 (a1 - a2)) * (σ 0 6)))
set_option maxRecDepth 100000 in
set_option maxHeartbeats 4000000 in
theorem c_X8_farOf (l : Launch) (σ : am_M) (a1 : Int32) (a2 : Int32) : am_Con l yX8_farOf cX8_farOf 3 (some .int) 2 [.ref 0, .int a1, .int a2] (wX8 σ) (fun (r : Option Value) (w : am_W) => r = (some (.int (X8_farOf σ a1 a2))) ∧ w = (wX8 σ)) := by
  obtain ⟨res, h⟩ : ∃ res, (X8_farOf σ a1 a2) = res := ⟨_, rfl⟩
  rw [h]
  refine am_metn (n0 := 36) (own := RX8) (cd := am_cdT' tX8_farOf) (rf := am_rfL rfX8) (ini := false) rfl (by decide +kernel) rfl (by decide) dX8_farOf rfX8_ok (Nat.le_of_ble_eq_true rfl) ?_
  intro V hV
  have hP : (fun (r : Option Value) (w : am_W) => r = (some (.int res)) ∧ w = (wX8 σ)) (some (.int res)) (wX8 σ) := ⟨rfl, rfl⟩
  show V (wX8 σ) 0 [(0, .ref 0), (1, .int a1), (2, .int a2)] []
  unfold X8_farOf at h
  refine hV.run 5 [] (ws' := wX8 σ) (pc' := 7) (ls' := [(0, .ref 0), (1, .int a1), (2, .int a2)]) (st' := [.int (a1 - a2), .int (σ 0 5)]) (ps := []) rfl trivial ?_
  refine hV.cSi (as := [.int (a1 - a2)]) (js := []) (rest := [.int (σ 0 5)]) (st := [.int (a1 - a2), .int (σ 0 5)]) (ws2 := wX8 σ) (pc2 := 10) kX8_393 (c_J9_abs_0f7a4 l (a1 - a2)) rfl rfl rfl rfl rfl rfl rfl rfl rfl rfl ?_
  refine hV.run 4 [] (ws' := wX8 σ) (pc' := 16) (ls' := [(0, .ref 0), (1, .int a1), (2, .int a2)]) (st' := [.int ((σ 0 5) + ((J9_abs_0f7a4 (a1 - a2)) * (σ 0 6)))]) (ps := []) rfl trivial ?_
  subst h
  exact hV.ri rfl rfl rfl hP

def X8_lay_J220 (n : Nat) (σ : am_M) (l1 : Int32) (l3 : Int32) (l4 : Int32) (s0 : Int32) (s1 : Int32) : Option am_M := if s1 < 0 ∨ 1985 ≤ s1.toNatClampNeg then none else (if l1 < 0 ∨ 8 ≤ l1.toNatClampNeg then none else (if l4 < 0 ∨ 321 ≤ l4.toNatClampNeg then none else (some (sC (sC σ 15 (upd (upd (σ 15) s1.toNatClampNeg s0) (64 : Int32).toNatClampNeg (((upd (σ 15) s1.toNatClampNeg s0) (64 : Int32).toNatClampNeg) + 1))) 20 (upd (σ 20) l4.toNatClampNeg (((σ 17 l1.toNatClampNeg) + 1) + (X8_farOf (sC σ 15 (upd (σ 15) s1.toNatClampNeg s0)) l1 l3)))))))
set_option maxRecDepth 100000 in
set_option maxHeartbeats 4000000 in
theorem p_X8_lay_J220 {l : Launch} {Post : Option Value → am_W → Prop} {V : am_VT} (hV : am_B l RX8 false 4 (am_cdT' tX8_lay) (am_rfL rfX8) none Post 36 V) (n : Nat) (res : am_M) (hP : Post none (wX8 res)) (σ : am_M) (l1 : Int32) (l3 : Int32) (l4 : Int32) (s0 : Int32) (s1 : Int32) (h : X8_lay_J220 n σ l1 l3 l4 s0 s1 = some res) : V (wX8 σ) 220 [(0, .ref 0), (1, .int l1), (3, .int l3), (4, .int l4)] [.int s0, .int s1, .ref 15] := by
  unfold X8_lay_J220 at h
  by_cases g1 : s1 < 0 ∨ 1985 ≤ s1.toNatClampNeg
  · rw [if_pos g1] at h; cases h
  rw [if_neg g1] at h
  by_cases g2 : l1 < 0 ∨ 8 ≤ l1.toNatClampNeg
  · rw [if_pos g2] at h; cases h
  rw [if_neg g2] at h
  refine hV.run 13 [] (ws' := wX8 (sC σ 15 (upd (σ 15) s1.toNatClampNeg s0))) (pc' := 238) (ls' := [(0, .ref 0), (1, .int l1), (3, .int l3), (4, .int l4)]) (st' := [.int l3, .int l1, .ref 0, .int ((σ 17 l1.toNatClampNeg) + 1), .int l4, .ref 20]) (ps := [vp_in s1 1985, vp_in l1 8]) rfl ⟨g1, g2, trivial⟩ ?_
  refine hV.cOi (as := [.int l1, .int l3]) (rest := [.int ((σ 17 l1.toNatClampNeg) + 1), .int l4, .ref 20]) (st := [.int l3, .int l1, .ref 0, .int ((σ 17 l1.toNatClampNeg) + 1), .int l4, .ref 20]) (ws2 := wX8 (sC σ 15 (upd (σ 15) s1.toNatClampNeg s0))) (pc2 := 241) kX8_369 (c_X8_farOf l (sC σ 15 (upd (σ 15) s1.toNatClampNeg s0)) l1 l3) rfl rfl rfl rfl rfl rfl rfl rfl rfl ?_
  by_cases g3 : l4 < 0 ∨ 321 ≤ l4.toNatClampNeg
  · rw [if_pos g3] at h; cases h
  rw [if_neg g3] at h
  refine hV.run 10 [] (ws' := wX8 (sC (sC σ 15 (upd (upd (σ 15) s1.toNatClampNeg s0) (64 : Int32).toNatClampNeg (((upd (σ 15) s1.toNatClampNeg s0) (64 : Int32).toNatClampNeg) + 1))) 20 (upd (σ 20) l4.toNatClampNeg (((σ 17 l1.toNatClampNeg) + 1) + (X8_farOf (sC σ 15 (upd (σ 15) s1.toNatClampNeg s0)) l1 l3))))) (pc' := 254) (ls' := [(0, .ref 0), (1, .int l1), (3, .int l3), (4, .int l4)]) (st' := []) (ps := [vp_in l4 321, vp_in (64 : Int32) 1985, vp_in (64 : Int32) 1985]) rfl ⟨g3, (am_inc (by decide)), (am_inc (by decide)), trivial⟩ ?_
  cases h
  exact hV.rv rfl rfl rfl hP
def X8_lay_J126 (n : Nat) (σ : am_M) (l1 : Int32) (l2 : Int32) (l3 : Int32) (l4 : Int32) : Option am_M := if ((X8_wordAt l4) + 0) < 0 ∨ 1985 ≤ ((X8_wordAt l4) + 0).toNatClampNeg then none else (if ((X8_wordAt l4) + 1) < 0 ∨ 1985 ≤ ((X8_wordAt l4) + 1).toNatClampNeg then none else (X8_asked n (sC σ 15 (upd (upd (σ 15) ((X8_wordAt l4) + 0).toNatClampNeg l1) ((X8_wordAt l4) + 1).toNatClampNeg l3)) l1 1).bind (fun q3 => if ((X8_wordAt l4) + 2) < 0 ∨ 1985 ≤ ((X8_wordAt l4) + 2).toNatClampNeg then none else (X8_asked n (sC q3.2 15 (upd (q3.2 15) ((X8_wordAt l4) + 2).toNatClampNeg q3.1)) l1 2).bind (fun q5 => if ((X8_wordAt l4) + 3) < 0 ∨ 1985 ≤ ((X8_wordAt l4) + 3).toNatClampNeg then none else (X8_own (sC q5.2 15 (upd (q5.2 15) ((X8_wordAt l4) + 3).toNatClampNeg q5.1)) l1 0).bind (fun q7 => if q7 < 0 ∨ 80 ≤ q7.toNatClampNeg then none else (if ((X8_wordAt l4) + 4) < 0 ∨ 1985 ≤ ((X8_wordAt l4) + 4).toNatClampNeg then none else (if l2 = 0 then (X8_lay_J220 n (sC q5.2 15 (upd (upd (q5.2 15) ((X8_wordAt l4) + 3).toNatClampNeg q5.1) ((X8_wordAt l4) + 4).toNatClampNeg ((q5.2 10) q7.toNatClampNeg))) l1 l3 l4 0 ((X8_wordAt l4) + 5)) else (X8_lay_J220 n (sC q5.2 15 (upd (upd (q5.2 15) ((X8_wordAt l4) + 3).toNatClampNeg q5.1) ((X8_wordAt l4) + 4).toNatClampNeg ((q5.2 10) q7.toNatClampNeg))) l1 l3 l4 1 ((X8_wordAt l4) + 5))))))))
set_option maxRecDepth 100000 in
set_option maxHeartbeats 4000000 in
theorem p_X8_lay_J126 {l : Launch} {Post : Option Value → am_W → Prop} {V : am_VT} (hV : am_B l RX8 false 4 (am_cdT' tX8_lay) (am_rfL rfX8) none Post 36 V) (n : Nat) (res : am_M) (hP : Post none (wX8 res)) (σ : am_M) (l1 : Int32) (l2 : Int32) (l3 : Int32) (l4 : Int32) (h : X8_lay_J126 n σ l1 l2 l3 l4 = some res) : V (wX8 σ) 126 [(0, .ref 0), (1, .int l1), (2, .int l2), (3, .int l3), (4, .int l4)] [] := by
  unfold X8_lay_J126 at h
  refine hV.run 1 [] (ws' := wX8 σ) (pc' := 128) (ls' := [(0, .ref 0), (1, .int l1), (2, .int l2), (3, .int l3), (4, .int l4)]) (st' := [.int l4]) (ps := []) rfl trivial ?_
  refine hV.cSi (as := [.int l4]) (js := []) (rest := []) (st := [.int l4]) (ws2 := wX8 σ) (pc2 := 131) kX8_366 (c_X8_wordAt l l4) rfl rfl rfl rfl rfl rfl rfl rfl rfl rfl ?_
  by_cases g1 : ((X8_wordAt l4) + 0) < 0 ∨ 1985 ≤ ((X8_wordAt l4) + 0).toNatClampNeg
  · rw [if_pos g1] at h; cases h
  rw [if_neg g1] at h
  by_cases g2 : ((X8_wordAt l4) + 1) < 0 ∨ 1985 ≤ ((X8_wordAt l4) + 1).toNatClampNeg
  · rw [if_pos g2] at h; cases h
  rw [if_neg g2] at h
  refine hV.run 23 [] (ws' := wX8 (sC σ 15 (upd (upd (σ 15) ((X8_wordAt l4) + 0).toNatClampNeg l1) ((X8_wordAt l4) + 1).toNatClampNeg l3))) (pc' := 164) (ls' := [(5, .int (X8_wordAt l4)), (0, .ref 0), (1, .int l1), (2, .int l2), (3, .int l3), (4, .int l4)]) (st' := [.int 1, .int l1, .ref 0, .int ((X8_wordAt l4) + 2), .ref 15]) (ps := [vp_in ((X8_wordAt l4) + 0) 1985, vp_in ((X8_wordAt l4) + 1) 1985]) rfl ⟨g1, g2, trivial⟩ ?_
  obtain ⟨q3, hq3, h⟩ := am_bind h
  refine hV.cOi (as := [.int l1, .int 1]) (rest := [.int ((X8_wordAt l4) + 2), .ref 15]) (st := [.int 1, .int l1, .ref 0, .int ((X8_wordAt l4) + 2), .ref 15]) (ws2 := wX8 q3.2) (pc2 := 167) kX8_347 (c_X8_asked l n (sC σ 15 (upd (upd (σ 15) ((X8_wordAt l4) + 0).toNatClampNeg l1) ((X8_wordAt l4) + 1).toNatClampNeg l3)) l1 1 q3 hq3) rfl rfl rfl rfl rfl rfl rfl rfl rfl ?_
  by_cases g4 : ((X8_wordAt l4) + 2) < 0 ∨ 1985 ≤ ((X8_wordAt l4) + 2).toNatClampNeg
  · rw [if_pos g4] at h; cases h
  rw [if_neg g4] at h
  refine hV.run 9 [] (ws' := wX8 (sC q3.2 15 (upd (q3.2 15) ((X8_wordAt l4) + 2).toNatClampNeg q3.1))) (pc' := 179) (ls' := [(5, .int (X8_wordAt l4)), (0, .ref 0), (1, .int l1), (2, .int l2), (3, .int l3), (4, .int l4)]) (st' := [.int 2, .int l1, .ref 0, .int ((X8_wordAt l4) + 3), .ref 15]) (ps := [vp_in ((X8_wordAt l4) + 2) 1985]) rfl ⟨g4, trivial⟩ ?_
  obtain ⟨q5, hq5, h⟩ := am_bind h
  refine hV.cOi (as := [.int l1, .int 2]) (rest := [.int ((X8_wordAt l4) + 3), .ref 15]) (st := [.int 2, .int l1, .ref 0, .int ((X8_wordAt l4) + 3), .ref 15]) (ws2 := wX8 q5.2) (pc2 := 182) kX8_347 (c_X8_asked l n (sC q3.2 15 (upd (q3.2 15) ((X8_wordAt l4) + 2).toNatClampNeg q3.1)) l1 2 q5 hq5) rfl rfl rfl rfl rfl rfl rfl rfl rfl ?_
  by_cases g6 : ((X8_wordAt l4) + 3) < 0 ∨ 1985 ≤ ((X8_wordAt l4) + 3).toNatClampNeg
  · rw [if_pos g6] at h; cases h
  rw [if_neg g6] at h
  refine hV.run 11 [] (ws' := wX8 (sC q5.2 15 (upd (q5.2 15) ((X8_wordAt l4) + 3).toNatClampNeg q5.1))) (pc' := 198) (ls' := [(5, .int (X8_wordAt l4)), (0, .ref 0), (1, .int l1), (2, .int l2), (3, .int l3), (4, .int l4)]) (st' := [.int 0, .int l1, .ref 0, .ref 10, .int ((X8_wordAt l4) + 4), .ref 15]) (ps := [vp_in ((X8_wordAt l4) + 3) 1985]) rfl ⟨g6, trivial⟩ ?_
  obtain ⟨q7, hq7, h⟩ := am_bind h
  refine hV.cOi (as := [.int l1, .int 0]) (rest := [.ref 10, .int ((X8_wordAt l4) + 4), .ref 15]) (st := [.int 0, .int l1, .ref 0, .ref 10, .int ((X8_wordAt l4) + 4), .ref 15]) (ws2 := wX8 (sC q5.2 15 (upd (q5.2 15) ((X8_wordAt l4) + 3).toNatClampNeg q5.1))) (pc2 := 201) kX8_337 (c_X8_own l (sC q5.2 15 (upd (q5.2 15) ((X8_wordAt l4) + 3).toNatClampNeg q5.1)) l1 0 q7 hq7) rfl rfl rfl rfl rfl rfl rfl rfl rfl ?_
  by_cases g8 : q7 < 0 ∨ 80 ≤ q7.toNatClampNeg
  · rw [if_pos g8] at h; cases h
  rw [if_neg g8] at h
  by_cases g9 : ((X8_wordAt l4) + 4) < 0 ∨ 1985 ≤ ((X8_wordAt l4) + 4).toNatClampNeg
  · rw [if_pos g9] at h; cases h
  rw [if_neg g9] at h
  by_cases c10 : l2 = 0
  · rw [if_pos c10] at h
    refine hV.run 10 [1] (ws' := wX8 (sC q5.2 15 (upd (upd (q5.2 15) ((X8_wordAt l4) + 3).toNatClampNeg q5.1) ((X8_wordAt l4) + 4).toNatClampNeg ((q5.2 10) q7.toNatClampNeg)))) (pc' := 220) (ls' := [(5, .int (X8_wordAt l4)), (0, .ref 0), (1, .int l1), (2, .int l2), (3, .int l3), (4, .int l4)]) (st' := [.int 0, .int ((X8_wordAt l4) + 5), .ref 15]) (ps := [vp_in q7 80, vp_in ((X8_wordAt l4) + 4) 1985, l2 = 0]) rfl ⟨g8, g9, c10, trivial⟩ ?_
    refine hV.pick [1, 2, 4, 5] (ls' := [(0, .ref 0), (1, .int l1), (3, .int l3), (4, .int l4)]) rfl ?_
    exact p_X8_lay_J220 hV n res hP (sC q5.2 15 (upd (upd (q5.2 15) ((X8_wordAt l4) + 3).toNatClampNeg q5.1) ((X8_wordAt l4) + 4).toNatClampNeg ((q5.2 10) q7.toNatClampNeg))) l1 l3 l4 0 ((X8_wordAt l4) + 5) h
  · rw [if_neg c10] at h
    refine hV.run 11 [0] (ws' := wX8 (sC q5.2 15 (upd (upd (q5.2 15) ((X8_wordAt l4) + 3).toNatClampNeg q5.1) ((X8_wordAt l4) + 4).toNatClampNeg ((q5.2 10) q7.toNatClampNeg)))) (pc' := 220) (ls' := [(5, .int (X8_wordAt l4)), (0, .ref 0), (1, .int l1), (2, .int l2), (3, .int l3), (4, .int l4)]) (st' := [.int 1, .int ((X8_wordAt l4) + 5), .ref 15]) (ps := [vp_in q7 80, vp_in ((X8_wordAt l4) + 4) 1985, ¬ l2 = 0]) rfl ⟨g8, g9, c10, trivial⟩ ?_
    refine hV.pick [1, 2, 4, 5] (ls' := [(0, .ref 0), (1, .int l1), (3, .int l3), (4, .int l4)]) rfl ?_
    exact p_X8_lay_J220 hV n res hP (sC q5.2 15 (upd (upd (q5.2 15) ((X8_wordAt l4) + 3).toNatClampNeg q5.1) ((X8_wordAt l4) + 4).toNatClampNeg ((q5.2 10) q7.toNatClampNeg))) l1 l3 l4 1 ((X8_wordAt l4) + 5) h
def X8_lay_B68 (n : Nat) (kont13 : am_M → Int32 → Int32 → Int32 → Int32 → Option am_M) (kont68 : am_M → Int32 → Int32 → Int32 → Int32 → Int32 → Int32 → Option am_M) (σ : am_M) (l1 : Int32) (l2 : Int32) (l3 : Int32) (l4 : Int32) (l5 : Int32) (l7 : Int32) : Option am_M := if 6 ≤ l7 then (if (l4 - 1) < 0 ∨ 321 ≤ (l4 - 1).toNatClampNeg then none else (if l4 < 0 ∨ 321 ≤ l4.toNatClampNeg then none else (kont13 (sC σ 20 (upd (σ 20) l4.toNatClampNeg (σ 20 (l4 - 1).toNatClampNeg))) l1 l2 l3 (l4 + (-1))))) else (if (l5 + l7) < 0 ∨ 1985 ≤ (l5 + l7).toNatClampNeg then none else (if ((l5 + 6) + l7) < 0 ∨ 1985 ≤ ((l5 + 6) + l7).toNatClampNeg then none else (kont68 (sC σ 15 (upd (σ 15) ((l5 + 6) + l7).toNatClampNeg (σ 15 (l5 + l7).toNatClampNeg))) l1 l2 l3 l4 l5 (l7 + 1))))
def X8_lay_L68 (n : Nat) (kont13 : am_M → Int32 → Int32 → Int32 → Int32 → Option am_M) : Nat → am_M → Int32 → Int32 → Int32 → Int32 → Int32 → Int32 → Option am_M
 | 0 => fun _ _ _ _ _ _ _ => none
 | k + 1 => fun σ l1 l2 l3 l4 l5 l7 => X8_lay_B68 n kont13 (X8_lay_L68 n kont13 k) σ l1 l2 l3 l4 l5 l7
set_option maxRecDepth 100000 in
set_option maxHeartbeats 4000000 in
theorem p_X8_lay_B68 {l : Launch} {Post : Option Value → am_W → Prop} {V : am_VT} (hV : am_B l RX8 false 4 (am_cdT' tX8_lay) (am_rfL rfX8) none Post 36 V) (n : Nat) (res : am_M) (hP : Post none (wX8 res)) (kont13 : am_M → Int32 → Int32 → Int32 → Int32 → Option am_M) (hk13 : ∀ (σ : am_M) (l1 : Int32) (l2 : Int32) (l3 : Int32) (l4 : Int32), kont13 σ l1 l2 l3 l4 = some res → V (wX8 σ) 13 [(0, .ref 0), (1, .int l1), (2, .int l2), (3, .int l3), (4, .int l4)] []) (kont68 : am_M → Int32 → Int32 → Int32 → Int32 → Int32 → Int32 → Option am_M) (hk68 : ∀ (σ : am_M) (l1 : Int32) (l2 : Int32) (l3 : Int32) (l4 : Int32) (l5 : Int32) (l7 : Int32), kont68 σ l1 l2 l3 l4 l5 l7 = some res → V (wX8 σ) 68 [(0, .ref 0), (1, .int l1), (2, .int l2), (3, .int l3), (4, .int l4), (5, .int l5), (7, .int l7)] []) (σ : am_M) (l1 : Int32) (l2 : Int32) (l3 : Int32) (l4 : Int32) (l5 : Int32) (l7 : Int32) (h : X8_lay_B68 n kont13 kont68 σ l1 l2 l3 l4 l5 l7 = some res) : V (wX8 σ) 68 [(0, .ref 0), (1, .int l1), (2, .int l2), (3, .int l3), (4, .int l4), (5, .int l5), (7, .int l7)] [] := by
  unfold X8_lay_B68 at h
  by_cases c1 : 6 ≤ l7
  · rw [if_pos c1] at h
    by_cases g2 : (l4 - 1) < 0 ∨ 321 ≤ (l4 - 1).toNatClampNeg
    · rw [if_pos g2] at h; cases h
    rw [if_neg g2] at h
    by_cases g3 : l4 < 0 ∨ 321 ≤ l4.toNatClampNeg
    · rw [if_pos g3] at h; cases h
    rw [if_neg g3] at h
    refine hV.run 15 [1] (ws' := wX8 (sC σ 20 (upd (σ 20) l4.toNatClampNeg (σ 20 (l4 - 1).toNatClampNeg)))) (pc' := 13) (ls' := [(4, .int (l4 + (-1))), (0, .ref 0), (1, .int l1), (2, .int l2), (3, .int l3), (5, .int l5), (7, .int l7)]) (st' := []) (ps := [6 ≤ l7, vp_in (l4 - 1) 321, vp_in l4 321]) rfl ⟨c1, g2, g3, trivial⟩ ?_
    refine hV.pick [1, 2, 3, 4, 0] (ls' := [(0, .ref 0), (1, .int l1), (2, .int l2), (3, .int l3), (4, .int (l4 + (-1)))]) rfl ?_
    exact hk13 (sC σ 20 (upd (σ 20) l4.toNatClampNeg (σ 20 (l4 - 1).toNatClampNeg))) l1 l2 l3 (l4 + (-1)) h
  · rw [if_neg c1] at h
    by_cases g4 : (l5 + l7) < 0 ∨ 1985 ≤ (l5 + l7).toNatClampNeg
    · rw [if_pos g4] at h; cases h
    rw [if_neg g4] at h
    by_cases g5 : ((l5 + 6) + l7) < 0 ∨ 1985 ≤ ((l5 + 6) + l7).toNatClampNeg
    · rw [if_pos g5] at h; cases h
    rw [if_neg g5] at h
    refine hV.run 19 [0] (ws' := wX8 (sC σ 15 (upd (σ 15) ((l5 + 6) + l7).toNatClampNeg (σ 15 (l5 + l7).toNatClampNeg)))) (pc' := 68) (ls' := [(7, .int (l7 + 1)), (0, .ref 0), (1, .int l1), (2, .int l2), (3, .int l3), (4, .int l4), (5, .int l5)]) (st' := []) (ps := [¬ 6 ≤ l7, vp_in (l5 + l7) 1985, vp_in ((l5 + 6) + l7) 1985]) rfl ⟨c1, g4, g5, trivial⟩ ?_
    refine hV.pick [1, 2, 3, 4, 5, 6, 0] (ls' := [(0, .ref 0), (1, .int l1), (2, .int l2), (3, .int l3), (4, .int l4), (5, .int l5), (7, .int (l7 + 1))]) rfl ?_
    exact hk68 (sC σ 15 (upd (σ 15) ((l5 + 6) + l7).toNatClampNeg (σ 15 (l5 + l7).toNatClampNeg))) l1 l2 l3 l4 l5 (l7 + 1) h
theorem p_X8_lay_L68 {l : Launch} {Post : Option Value → am_W → Prop} {V : am_VT} (hV : am_B l RX8 false 4 (am_cdT' tX8_lay) (am_rfL rfX8) none Post 36 V) (n : Nat) (res : am_M) (hP : Post none (wX8 res)) (kont13 : am_M → Int32 → Int32 → Int32 → Int32 → Option am_M) (hk13 : ∀ (σ : am_M) (l1 : Int32) (l2 : Int32) (l3 : Int32) (l4 : Int32), kont13 σ l1 l2 l3 l4 = some res → V (wX8 σ) 13 [(0, .ref 0), (1, .int l1), (2, .int l2), (3, .int l3), (4, .int l4)] []) : ∀ (k : Nat) (σ : am_M) (l1 : Int32) (l2 : Int32) (l3 : Int32) (l4 : Int32) (l5 : Int32) (l7 : Int32) (h : X8_lay_L68 n kont13 k σ l1 l2 l3 l4 l5 l7 = some res), V (wX8 σ) 68 [(0, .ref 0), (1, .int l1), (2, .int l2), (3, .int l3), (4, .int l4), (5, .int l5), (7, .int l7)] [] := by
  intro k
  induction k with
  | zero => intro σ l1 l2 l3 l4 l5 l7 h; cases h
  | succ k ih => intro σ l1 l2 l3 l4 l5 l7 h; exact p_X8_lay_B68 hV n res hP kont13 hk13 _ ih σ l1 l2 l3 l4 l5 l7 h
def X8_lay_B13 (n : Nat) (kont13 : am_M → Int32 → Int32 → Int32 → Int32 → Option am_M) (σ : am_M) (l1 : Int32) (l2 : Int32) (l3 : Int32) (l4 : Int32) : Option am_M := if l4 ≤ 0 then (X8_lay_J126 n σ l1 l2 l3 l4) else (if ((X8_wordAt (l4 - 1)) + 0) < 0 ∨ 1985 ≤ ((X8_wordAt (l4 - 1)) + 0).toNatClampNeg then none else (if ((X8_wordAt (l4 - 1)) + 1) < 0 ∨ 1985 ≤ ((X8_wordAt (l4 - 1)) + 1).toNatClampNeg then none else (if ((8 * l1) + l3) < ((8 * (σ 15 ((X8_wordAt (l4 - 1)) + 0).toNatClampNeg)) + (σ 15 ((X8_wordAt (l4 - 1)) + 1).toNatClampNeg)) then (X8_lay_L68 n kont13 n σ l1 l2 l3 l4 (X8_wordAt (l4 - 1)) 0) else (X8_lay_J126 n σ l1 l2 l3 l4))))
def X8_lay_L13 (n : Nat) : Nat → am_M → Int32 → Int32 → Int32 → Int32 → Option am_M
 | 0 => fun _ _ _ _ _ => none
 | k + 1 => fun σ l1 l2 l3 l4 => X8_lay_B13 n (X8_lay_L13 n k) σ l1 l2 l3 l4
set_option maxRecDepth 100000 in
set_option maxHeartbeats 4000000 in
theorem p_X8_lay_B13 {l : Launch} {Post : Option Value → am_W → Prop} {V : am_VT} (hV : am_B l RX8 false 4 (am_cdT' tX8_lay) (am_rfL rfX8) none Post 36 V) (n : Nat) (res : am_M) (hP : Post none (wX8 res)) (kont13 : am_M → Int32 → Int32 → Int32 → Int32 → Option am_M) (hk13 : ∀ (σ : am_M) (l1 : Int32) (l2 : Int32) (l3 : Int32) (l4 : Int32), kont13 σ l1 l2 l3 l4 = some res → V (wX8 σ) 13 [(0, .ref 0), (1, .int l1), (2, .int l2), (3, .int l3), (4, .int l4)] []) (σ : am_M) (l1 : Int32) (l2 : Int32) (l3 : Int32) (l4 : Int32) (h : X8_lay_B13 n kont13 σ l1 l2 l3 l4 = some res) : V (wX8 σ) 13 [(0, .ref 0), (1, .int l1), (2, .int l2), (3, .int l3), (4, .int l4)] [] := by
  unfold X8_lay_B13 at h
  by_cases c1 : l4 ≤ 0
  · rw [if_pos c1] at h
    refine hV.run 2 [1] (ws' := wX8 σ) (pc' := 126) (ls' := [(0, .ref 0), (1, .int l1), (2, .int l2), (3, .int l3), (4, .int l4)]) (st' := []) (ps := [l4 ≤ 0]) rfl ⟨c1, trivial⟩ ?_
    exact p_X8_lay_J126 hV n res hP σ l1 l2 l3 l4 h
  · rw [if_neg c1] at h
    refine hV.run 5 [0] (ws' := wX8 σ) (pc' := 22) (ls' := [(0, .ref 0), (1, .int l1), (2, .int l2), (3, .int l3), (4, .int l4)]) (st' := [.int (l4 - 1)]) (ps := [¬ l4 ≤ 0]) rfl ⟨c1, trivial⟩ ?_
    refine hV.cSi (as := [.int (l4 - 1)]) (js := []) (rest := []) (st := [.int (l4 - 1)]) (ws2 := wX8 σ) (pc2 := 25) kX8_366 (c_X8_wordAt l (l4 - 1)) rfl rfl rfl rfl rfl rfl rfl rfl rfl rfl ?_
    by_cases g2 : ((X8_wordAt (l4 - 1)) + 0) < 0 ∨ 1985 ≤ ((X8_wordAt (l4 - 1)) + 0).toNatClampNeg
    · rw [if_pos g2] at h; cases h
    rw [if_neg g2] at h
    by_cases g3 : ((X8_wordAt (l4 - 1)) + 1) < 0 ∨ 1985 ≤ ((X8_wordAt (l4 - 1)) + 1).toNatClampNeg
    · rw [if_pos g3] at h; cases h
    rw [if_neg g3] at h
    by_cases c4 : ((8 * l1) + l3) < ((8 * (σ 15 ((X8_wordAt (l4 - 1)) + 0).toNatClampNeg)) + (σ 15 ((X8_wordAt (l4 - 1)) + 1).toNatClampNeg))
    · rw [if_pos c4] at h
      refine hV.run 26 [1] (ws' := wX8 σ) (pc' := 68) (ls' := [(7, .int 0), (6, .int ((8 * (σ 15 ((X8_wordAt (l4 - 1)) + 0).toNatClampNeg)) + (σ 15 ((X8_wordAt (l4 - 1)) + 1).toNatClampNeg))), (5, .int (X8_wordAt (l4 - 1))), (0, .ref 0), (1, .int l1), (2, .int l2), (3, .int l3), (4, .int l4)]) (st' := []) (ps := [vp_in ((X8_wordAt (l4 - 1)) + 0) 1985, vp_in ((X8_wordAt (l4 - 1)) + 1) 1985, ((8 * l1) + l3) < ((8 * (σ 15 ((X8_wordAt (l4 - 1)) + 0).toNatClampNeg)) + (σ 15 ((X8_wordAt (l4 - 1)) + 1).toNatClampNeg))]) rfl ⟨g2, g3, c4, trivial⟩ ?_
      refine hV.pick [3, 4, 5, 6, 7, 2, 0] (ls' := [(0, .ref 0), (1, .int l1), (2, .int l2), (3, .int l3), (4, .int l4), (5, .int (X8_wordAt (l4 - 1))), (7, .int 0)]) rfl ?_
      exact p_X8_lay_L68 hV n res hP kont13 hk13 n σ l1 l2 l3 l4 (X8_wordAt (l4 - 1)) 0 h
    · rw [if_neg c4] at h
      refine hV.run 25 [0] (ws' := wX8 σ) (pc' := 126) (ls' := [(6, .int ((8 * (σ 15 ((X8_wordAt (l4 - 1)) + 0).toNatClampNeg)) + (σ 15 ((X8_wordAt (l4 - 1)) + 1).toNatClampNeg))), (5, .int (X8_wordAt (l4 - 1))), (0, .ref 0), (1, .int l1), (2, .int l2), (3, .int l3), (4, .int l4)]) (st' := []) (ps := [vp_in ((X8_wordAt (l4 - 1)) + 0) 1985, vp_in ((X8_wordAt (l4 - 1)) + 1) 1985, ¬ ((8 * l1) + l3) < ((8 * (σ 15 ((X8_wordAt (l4 - 1)) + 0).toNatClampNeg)) + (σ 15 ((X8_wordAt (l4 - 1)) + 1).toNatClampNeg))]) rfl ⟨g2, g3, c4, trivial⟩ ?_
      refine hV.pick [2, 3, 4, 5, 6] (ls' := [(0, .ref 0), (1, .int l1), (2, .int l2), (3, .int l3), (4, .int l4)]) rfl ?_
      exact p_X8_lay_J126 hV n res hP σ l1 l2 l3 l4 h
theorem p_X8_lay_L13 {l : Launch} {Post : Option Value → am_W → Prop} {V : am_VT} (hV : am_B l RX8 false 4 (am_cdT' tX8_lay) (am_rfL rfX8) none Post 36 V) (n : Nat) (res : am_M) (hP : Post none (wX8 res)) : ∀ (k : Nat) (σ : am_M) (l1 : Int32) (l2 : Int32) (l3 : Int32) (l4 : Int32) (h : X8_lay_L13 n k σ l1 l2 l3 l4 = some res), V (wX8 σ) 13 [(0, .ref 0), (1, .int l1), (2, .int l2), (3, .int l3), (4, .int l4)] [] := by
  intro k
  induction k with
  | zero => intro σ l1 l2 l3 l4 h; cases h
  | succ k ih => intro σ l1 l2 l3 l4 h; exact p_X8_lay_B13 hV n res hP _ ih σ l1 l2 l3 l4 h
def X8_lay (n : Nat) (σ : am_M) (a1 : Int32) (a2 : Int32) : Option am_M := (X8_asked n σ a1 0).bind (fun q1 => X8_lay_L13 n n q1.2 a1 a2 q1.1 (X8_words q1.2))
set_option maxRecDepth 100000 in
set_option maxHeartbeats 4000000 in
theorem c_X8_lay (l : Launch) (n : Nat) (σ : am_M) (a1 : Int32) (a2 : Int32) (res : am_M) (h : X8_lay n σ a1 a2 = some res) : am_Con l yX8_lay cX8_lay 8 none 4 [.ref 0, .int a1, .int a2] (wX8 σ) (fun (r : Option Value) (w : am_W) => r = none ∧ w = (wX8 res)) := by
  refine am_metn (n0 := 36) (own := RX8) (cd := am_cdT' tX8_lay) (rf := am_rfL rfX8) (ini := false) rfl (by decide +kernel) rfl (by decide) dX8_lay rfX8_ok (Nat.le_of_ble_eq_true rfl) ?_
  intro V hV
  have hP : (fun (r : Option Value) (w : am_W) => r = none ∧ w = (wX8 res)) none (wX8 res) := ⟨rfl, rfl⟩
  show V (wX8 σ) 0 [(0, .ref 0), (1, .int a1), (2, .int a2)] []
  unfold X8_lay at h
  refine hV.run 3 [] (ws' := wX8 σ) (pc' := 3) (ls' := [(0, .ref 0), (1, .int a1), (2, .int a2)]) (st' := [.int 0, .int a1, .ref 0]) (ps := []) rfl trivial ?_
  obtain ⟨q1, hq1, h⟩ := am_bind h
  refine hV.cOi (as := [.int a1, .int 0]) (rest := []) (st := [.int 0, .int a1, .ref 0]) (ws2 := wX8 q1.2) (pc2 := 6) kX8_347 (c_X8_asked l n σ a1 0 q1 hq1) rfl rfl rfl rfl rfl rfl rfl rfl rfl ?_
  refine hV.run 2 [] (ws' := wX8 q1.2) (pc' := 8) (ls' := [(3, .int q1.1), (0, .ref 0), (1, .int a1), (2, .int a2)]) (st' := [.ref 0]) (ps := []) rfl trivial ?_
  refine hV.cOi (as := []) (rest := []) (st := [.ref 0]) (ws2 := wX8 q1.2) (pc2 := 11) kX8_363 (c_X8_words l q1.2) rfl rfl rfl rfl rfl rfl rfl rfl rfl ?_
  refine hV.run 1 [] (ws' := wX8 q1.2) (pc' := 13) (ls' := [(4, .int (X8_words q1.2)), (3, .int q1.1), (0, .ref 0), (1, .int a1), (2, .int a2)]) (st' := []) (ps := []) rfl trivial ?_
  refine hV.pick [2, 3, 4, 1, 0] (ls' := [(0, .ref 0), (1, .int a1), (2, .int a2), (3, .int q1.1), (4, .int (X8_words q1.2))]) rfl ?_
  exact p_X8_lay_L13 hV n res hP n q1.2 a1 a2 q1.1 (X8_words q1.2) h

