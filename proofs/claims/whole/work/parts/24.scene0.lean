def wX2 (x : Nat) (σ : am_M) (τ : Nat → Int64) : am_W := [.inr (2, [.ref x, .int (σ 0 1), .int (σ 0 2), .int (σ 0 3), .int (σ 0 4), .long (τ 0), .ref 1, .ref 2, .ref 7, .ref 8, .ref 9, .ref 10, .int (σ 0 12), .int (σ 0 13), .int (σ 0 14), .int (σ 0 15)]),
  .inl (0, 104, .inl (σ 1)),
  .inr (6, [.ref 3, .ref 4, .ref 5, .ref 6, .int (σ 2 4)]),
  .inl (0, 320, .inl (σ 3)),
  .inl (0, 320, .inl (σ 4)),
  .inl (0, 320, .inl (σ 5)),
  .inl (0, 320, .inl (σ 6)),
  .inl (0, 40, .inl (σ 7)),
  .inl (0, 8, .inl (σ 8)),
  .inl (0, 8, .inl (σ 9)),
  .inl (0, 8, .inl (σ 10)),
  .inr (3, [.ref 12, .ref 13, .ref 14, .ref 15, .ref 16, .ref 17, .ref 18, .int (σ 11 7), .int (σ 11 8), .int (σ 11 9)]),
  .inl (0, 40, .inl (σ 12)),
  .inl (0, 40, .inl (σ 13)),
  .inl (0, 40, .inl (σ 14)),
  .inl (0, 40, .inl (σ 15)),
  .inl (0, 40, .inl (σ 16)),
  .inl (0, 120, .inl (σ 17)),
  .inl (0, 900, .inl (σ 18))]
def X2_get (σ : am_M) (a1 : Int32) (a2 : Int32) : Int32 := if ((a1 * 13) + a2) < 0 then (0) else (if (Int32.ofNat 104) ≤ ((a1 * 13) + a2) then (0) else (σ 1 ((a1 * 13) + a2).toNatClampNeg))
set_option maxRecDepth 100000 in
set_option maxHeartbeats 4000000 in
theorem c_X2_get (l : Launch) (σ : am_M) (τ : Nat → Int64) (a1 : Int32) (a2 : Int32) : am_Con l yX2_get cX2_get 4 (some .int) 1 [.ref 0, .int a1, .int a2] (wX2 11 σ τ) (fun (r : Option Value) (w : am_W) => r = (some (.int (X2_get σ a1 a2))) ∧ w = (wX2 11 σ τ)) := by
  obtain ⟨res, h⟩ : ∃ res, (X2_get σ a1 a2) = res := ⟨_, rfl⟩
  rw [h]
  refine am_metn (n0 := 19) (own := RX2) (cd := am_cdT' tX2_get) (rf := am_rfL rfX2) (ini := false) rfl (by decide +kernel) rfl (by decide) dX2_get rfX2_ok (Nat.le_of_ble_eq_true rfl) ?_
  intro V hV
  have hP : (fun (r : Option Value) (w : am_W) => r = (some (.int res)) ∧ w = (wX2 11 σ τ)) (some (.int res)) (wX2 11 σ τ) := ⟨rfl, rfl⟩
  show V (wX2 11 σ τ) 0 [(0, .ref 0), (1, .int a1), (2, .int a2)] []
  unfold X2_get at h
  by_cases c1 : ((a1 * 13) + a2) < 0
  · rw [if_pos c1] at h
    refine hV.run 9 [1] (ws' := wX2 11 σ τ) (pc' := 30) (ls' := [(3, .int ((a1 * 13) + a2)), (0, .ref 0), (1, .int a1), (2, .int a2)]) (st' := [.int 0]) (ps := [((a1 * 13) + a2) < 0]) rfl ⟨c1, trivial⟩ ?_
    subst h
    exact hV.ri rfl rfl rfl hP
  · rw [if_neg c1] at h
    by_cases c2 : (Int32.ofNat 104) ≤ ((a1 * 13) + a2)
    · rw [if_pos c2] at h
      refine hV.run 14 [0, 1] (ws' := wX2 11 σ τ) (pc' := 30) (ls' := [(3, .int ((a1 * 13) + a2)), (0, .ref 0), (1, .int a1), (2, .int a2)]) (st' := [.int 0]) (ps := [¬ ((a1 * 13) + a2) < 0, (Int32.ofNat 104) ≤ ((a1 * 13) + a2)]) rfl ⟨c1, c2, trivial⟩ ?_
      subst h
      exact hV.ri rfl rfl rfl hP
    · rw [if_neg c2] at h
      refine hV.run 18 [0, 0] (ws' := wX2 11 σ τ) (pc' := 30) (ls' := [(3, .int ((a1 * 13) + a2)), (0, .ref 0), (1, .int a1), (2, .int a2)]) (st' := [.int (σ 1 ((a1 * 13) + a2).toNatClampNeg)]) (ps := [¬ ((a1 * 13) + a2) < 0, ¬ (Int32.ofNat 104) ≤ ((a1 * 13) + a2), vp_in ((a1 * 13) + a2) 104]) rfl ⟨c1, c2, (am_in1 c1 c2 (by decide)), trivial⟩ ?_
      subst h
      exact hV.ri rfl rfl rfl hP

def X2_set (σ : am_M) (a1 : Int32) (a2 : Int32) (a3 : Int32) : Option am_M := if ((a1 * 13) + a2) < 0 then (some σ) else (if (Int32.ofNat 104) ≤ ((a1 * 13) + a2) then (some σ) else (some (sC σ 1 (upd (σ 1) ((a1 * 13) + a2).toNatClampNeg a3))))
set_option maxRecDepth 100000 in
set_option maxHeartbeats 4000000 in
theorem c_X2_set (l : Launch) (σ : am_M) (τ : Nat → Int64) (a1 : Int32) (a2 : Int32) (a3 : Int32) (res : am_M) (h : X2_set σ a1 a2 a3 = some res) : am_Con l yX2_set cX2_set 5 none 1 [.ref 0, .int a1, .int a2, .int a3] (wX2 11 σ τ) (fun (r : Option Value) (w : am_W) => r = none ∧ w = (wX2 11 res τ)) := by
  refine am_metn (n0 := 19) (own := RX2) (cd := am_cdT' tX2_set) (rf := am_rfL rfX2) (ini := false) rfl (by decide +kernel) rfl (by decide) dX2_set rfX2_ok (Nat.le_of_ble_eq_true rfl) ?_
  intro V hV
  have hP : (fun (r : Option Value) (w : am_W) => r = none ∧ w = (wX2 11 res τ)) none (wX2 11 res τ) := ⟨rfl, rfl⟩
  show V (wX2 11 σ τ) 0 [(0, .ref 0), (1, .int a1), (2, .int a2), (3, .int a3)] []
  unfold X2_set at h
  by_cases c1 : ((a1 * 13) + a2) < 0
  · rw [if_pos c1] at h
    refine hV.run 8 [1] (ws' := wX2 11 σ τ) (pc' := 31) (ls' := [(4, .int ((a1 * 13) + a2)), (0, .ref 0), (1, .int a1), (2, .int a2), (3, .int a3)]) (st' := []) (ps := [((a1 * 13) + a2) < 0]) rfl ⟨c1, trivial⟩ ?_
    cases h
    exact hV.rv rfl rfl rfl hP
  · rw [if_neg c1] at h
    by_cases c2 : (Int32.ofNat 104) ≤ ((a1 * 13) + a2)
    · rw [if_pos c2] at h
      refine hV.run 13 [0, 1] (ws' := wX2 11 σ τ) (pc' := 31) (ls' := [(4, .int ((a1 * 13) + a2)), (0, .ref 0), (1, .int a1), (2, .int a2), (3, .int a3)]) (st' := []) (ps := [¬ ((a1 * 13) + a2) < 0, (Int32.ofNat 104) ≤ ((a1 * 13) + a2)]) rfl ⟨c1, c2, trivial⟩ ?_
      cases h
      exact hV.rv rfl rfl rfl hP
    · rw [if_neg c2] at h
      refine hV.run 18 [0, 0] (ws' := wX2 11 (sC σ 1 (upd (σ 1) ((a1 * 13) + a2).toNatClampNeg a3)) τ) (pc' := 31) (ls' := [(4, .int ((a1 * 13) + a2)), (0, .ref 0), (1, .int a1), (2, .int a2), (3, .int a3)]) (st' := []) (ps := [¬ ((a1 * 13) + a2) < 0, ¬ (Int32.ofNat 104) ≤ ((a1 * 13) + a2), vp_in ((a1 * 13) + a2) 104]) rfl ⟨c1, c2, (am_in1 c1 c2 (by decide)), trivial⟩ ?_
      cases h
      exact hV.rv rfl rfl rfl hP

def X2_isHand (σ : am_M) (a1 : Int32) : Bool := if a1 < 0 then (false) else (if (σ 0 1) ≤ a1 then (false) else (true))
set_option maxRecDepth 100000 in
set_option maxHeartbeats 4000000 in
theorem c_X2_isHand (l : Launch) (σ : am_M) (τ : Nat → Int64) (a1 : Int32) : am_Con l yX2_isHand cX2_isHand 2 (some .boolean) 1 [.ref 0, .int a1] (wX2 11 σ τ) (fun (r : Option Value) (w : am_W) => r = (some (.int (b2i (X2_isHand σ a1)))) ∧ w = (wX2 11 σ τ)) := by
  obtain ⟨res, h⟩ : ∃ res, (X2_isHand σ a1) = res := ⟨_, rfl⟩
  rw [h]
  refine am_metn (n0 := 19) (own := RX2) (cd := am_cdT' tX2_isHand) (rf := am_rfL rfX2) (ini := false) rfl (by decide +kernel) rfl (by decide) dX2_isHand rfX2_ok (Nat.le_of_ble_eq_true rfl) ?_
  intro V hV
  have hP : (fun (r : Option Value) (w : am_W) => r = (some (.int (b2i res))) ∧ w = (wX2 11 σ τ)) (some (.int (b2i res))) (wX2 11 σ τ) := ⟨rfl, rfl⟩
  show V (wX2 11 σ τ) 0 [(0, .ref 0), (1, .int a1)] []
  unfold X2_isHand at h
  by_cases c1 : a1 < 0
  · rw [if_pos c1] at h
    refine hV.run 3 [1] (ws' := wX2 11 σ τ) (pc' := 17) (ls' := [(0, .ref 0), (1, .int a1)]) (st' := [.int 0]) (ps := [a1 < 0]) rfl ⟨c1, trivial⟩ ?_
    subst h
    exact hV.rz rfl rfl rfl (Or.inl rfl) hP
  · rw [if_neg c1] at h
    by_cases c2 : (σ 0 1) ≤ a1
    · rw [if_pos c2] at h
      refine hV.run 7 [0, 1] (ws' := wX2 11 σ τ) (pc' := 17) (ls' := [(0, .ref 0), (1, .int a1)]) (st' := [.int 0]) (ps := [¬ a1 < 0, (σ 0 1) ≤ a1]) rfl ⟨c1, c2, trivial⟩ ?_
      subst h
      exact hV.rz rfl rfl rfl (Or.inl rfl) hP
    · rw [if_neg c2] at h
      refine hV.run 8 [0, 0] (ws' := wX2 11 σ τ) (pc' := 17) (ls' := [(0, .ref 0), (1, .int a1)]) (st' := [.int 1]) (ps := [¬ a1 < 0, ¬ (σ 0 1) ≤ a1]) rfl ⟨c1, c2, trivial⟩ ?_
      subst h
      exact hV.rz rfl rfl rfl (Or.inr rfl) hP

def X2_hasEnded (σ : am_M) (a1 : Int32) : Bool := if (X2_get σ a1 0) = (-1) then (true) else (false)
set_option maxRecDepth 100000 in
set_option maxHeartbeats 4000000 in
theorem c_X2_hasEnded (l : Launch) (σ : am_M) (τ : Nat → Int64) (a1 : Int32) : am_Con l yX2_hasEnded cX2_hasEnded 2 (some .boolean) 2 [.ref 0, .int a1] (wX2 11 σ τ) (fun (r : Option Value) (w : am_W) => r = (some (.int (b2i (X2_hasEnded σ a1)))) ∧ w = (wX2 11 σ τ)) := by
  obtain ⟨res, h⟩ : ∃ res, (X2_hasEnded σ a1) = res := ⟨_, rfl⟩
  rw [h]
  refine am_metn (n0 := 19) (own := RX2) (cd := am_cdT' tX2_hasEnded) (rf := am_rfL rfX2) (ini := false) rfl (by decide +kernel) rfl (by decide) dX2_hasEnded rfX2_ok (Nat.le_of_ble_eq_true rfl) ?_
  intro V hV
  have hP : (fun (r : Option Value) (w : am_W) => r = (some (.int (b2i res))) ∧ w = (wX2 11 σ τ)) (some (.int (b2i res))) (wX2 11 σ τ) := ⟨rfl, rfl⟩
  show V (wX2 11 σ τ) 0 [(0, .ref 0), (1, .int a1)] []
  unfold X2_hasEnded at h
  refine hV.run 3 [] (ws' := wX2 11 σ τ) (pc' := 3) (ls' := [(0, .ref 0), (1, .int a1)]) (st' := [.int 0, .int a1, .ref 0]) (ps := []) rfl trivial ?_
  refine hV.cOi (as := [.int a1, .int 0]) (rest := []) (st := [.int 0, .int a1, .ref 0]) (ws2 := wX2 11 σ τ) (pc2 := 6) kX2_81 (c_X2_get l σ τ a1 0) rfl rfl rfl rfl rfl rfl rfl rfl rfl ?_
  by_cases c1 : (X2_get σ a1 0) = (-1)
  · rw [if_pos c1] at h
    refine hV.run 4 [0] (ws' := wX2 11 σ τ) (pc' := 15) (ls' := [(0, .ref 0), (1, .int a1)]) (st' := [.int 1]) (ps := [(X2_get σ a1 0) = (-1)]) rfl ⟨c1, trivial⟩ ?_
    subst h
    exact hV.rz rfl rfl rfl (Or.inr rfl) hP
  · rw [if_neg c1] at h
    refine hV.run 3 [1] (ws' := wX2 11 σ τ) (pc' := 15) (ls' := [(0, .ref 0), (1, .int a1)]) (st' := [.int 0]) (ps := [¬ (X2_get σ a1 0) = (-1)]) rfl ⟨c1, trivial⟩ ?_
    subst h
    exact hV.rz rfl rfl rfl (Or.inl rfl) hP

def X2_hasDone (σ : am_M) (a1 : Int32) : Option am_M := some (sC σ 0 (am_u (σ 0) 15 ((σ 0 15) ||| (1 <<< (a1 &&& 31)))))
set_option maxRecDepth 100000 in
set_option maxHeartbeats 4000000 in
theorem c_X2_hasDone (l : Launch) (σ : am_M) (τ : Nat → Int64) (a1 : Int32) (res : am_M) (h : X2_hasDone σ a1 = some res) : am_Con l yX2_hasDone cX2_hasDone 2 none 1 [.ref 0, .int a1] (wX2 11 σ τ) (fun (r : Option Value) (w : am_W) => r = none ∧ w = (wX2 11 res τ)) := by
  refine am_metn (n0 := 19) (own := RX2) (cd := am_cdT' tX2_hasDone) (rf := am_rfL rfX2) (ini := false) rfl (by decide +kernel) rfl (by decide) dX2_hasDone rfX2_ok (Nat.le_of_ble_eq_true rfl) ?_
  intro V hV
  have hP : (fun (r : Option Value) (w : am_W) => r = none ∧ w = (wX2 11 res τ)) none (wX2 11 res τ) := ⟨rfl, rfl⟩
  show V (wX2 11 σ τ) 0 [(0, .ref 0), (1, .int a1)] []
  unfold X2_hasDone at h
  refine hV.run 8 [] (ws' := wX2 11 (sC σ 0 (am_u (σ 0) 15 ((σ 0 15) ||| (1 <<< (a1 &&& 31))))) τ) (pc' := 12) (ls' := [(0, .ref 0), (1, .int a1)]) (st' := []) (ps := []) rfl trivial ?_
  cases h
  exact hV.rv rfl rfl rfl hP

def X2_isLeftOut (σ : am_M) (τ : Nat → Int64) (a1 : Int32) : Bool := if (lg_cmp ((am_lushr (τ 0) a1) &&& 1) 1) = 0 then (true) else (false)
set_option maxRecDepth 100000 in
set_option maxHeartbeats 4000000 in
theorem c_X2_isLeftOut (l : Launch) (σ : am_M) (τ : Nat → Int64) (a1 : Int32) : am_Con l yX2_isLeftOut cX2_isLeftOut 2 (some .boolean) 1 [.ref 0, .int a1] (wX2 11 σ τ) (fun (r : Option Value) (w : am_W) => r = (some (.int (b2i (X2_isLeftOut σ τ a1)))) ∧ w = (wX2 11 σ τ)) := by
  obtain ⟨res, h⟩ : ∃ res, (X2_isLeftOut σ τ a1) = res := ⟨_, rfl⟩
  rw [h]
  refine am_metn (n0 := 19) (own := RX2) (cd := am_cdT' tX2_isLeftOut) (rf := am_rfL rfX2) (ini := false) rfl (by decide +kernel) rfl (by decide) dX2_isLeftOut rfX2_ok (Nat.le_of_ble_eq_true rfl) ?_
  intro V hV
  have hP : (fun (r : Option Value) (w : am_W) => r = (some (.int (b2i res))) ∧ w = (wX2 11 σ τ)) (some (.int (b2i res))) (wX2 11 σ τ) := ⟨rfl, rfl⟩
  show V (wX2 11 σ τ) 0 [(0, .ref 0), (1, .int a1)] []
  unfold X2_isLeftOut at h
  by_cases c1 : (lg_cmp ((am_lushr (τ 0) a1) &&& 1) 1) = 0
  · rw [if_pos c1] at h
    refine hV.run 11 [0] (ws' := wX2 11 σ τ) (pc' := 18) (ls' := [(0, .ref 0), (1, .int a1)]) (st' := [.int 1]) (ps := [(lg_cmp ((am_lushr (τ 0) a1) &&& 1) 1) = 0]) rfl ⟨c1, trivial⟩ ?_
    subst h
    exact hV.rz rfl rfl rfl (Or.inr rfl) hP
  · rw [if_neg c1] at h
    refine hV.run 10 [1] (ws' := wX2 11 σ τ) (pc' := 18) (ls' := [(0, .ref 0), (1, .int a1)]) (st' := [.int 0]) (ps := [¬ (lg_cmp ((am_lushr (τ 0) a1) &&& 1) 1) = 0]) rfl ⟨c1, trivial⟩ ?_
    subst h
    exact hV.rz rfl rfl rfl (Or.inl rfl) hP

def X2_far (σ : am_M) (a1 : Int32) (a2 : Int32) : Int32 := ((σ 0 3) + ((J9_abs_0f7a4 (a1 - a2)) * (σ 0 4)))
set_option maxRecDepth 100000 in
set_option maxHeartbeats 4000000 in
theorem c_X2_far (l : Launch) (σ : am_M) (τ : Nat → Int64) (a1 : Int32) (a2 : Int32) : am_Con l yX2_far cX2_far 3 (some .int) 2 [.ref 0, .int a1, .int a2] (wX2 11 σ τ) (fun (r : Option Value) (w : am_W) => r = (some (.int (X2_far σ a1 a2))) ∧ w = (wX2 11 σ τ)) := by
  obtain ⟨res, h⟩ : ∃ res, (X2_far σ a1 a2) = res := ⟨_, rfl⟩
  rw [h]
  refine am_metn (n0 := 19) (own := RX2) (cd := am_cdT' tX2_far) (rf := am_rfL rfX2) (ini := false) rfl (by decide +kernel) rfl (by decide) dX2_far rfX2_ok (Nat.le_of_ble_eq_true rfl) ?_
  intro V hV
  have hP : (fun (r : Option Value) (w : am_W) => r = (some (.int res)) ∧ w = (wX2 11 σ τ)) (some (.int res)) (wX2 11 σ τ) := ⟨rfl, rfl⟩
  show V (wX2 11 σ τ) 0 [(0, .ref 0), (1, .int a1), (2, .int a2)] []
  unfold X2_far at h
  refine hV.run 5 [] (ws' := wX2 11 σ τ) (pc' := 7) (ls' := [(0, .ref 0), (1, .int a1), (2, .int a2)]) (st' := [.int (a1 - a2), .int (σ 0 3)]) (ps := []) rfl trivial ?_
  refine hV.cSi (as := [.int (a1 - a2)]) (js := []) (rest := [.int (σ 0 3)]) (st := [.int (a1 - a2), .int (σ 0 3)]) (ws2 := wX2 11 σ τ) (pc2 := 10) kX2_227 (c_J9_abs_0f7a4 l (a1 - a2)) rfl rfl rfl rfl rfl rfl rfl rfl rfl rfl ?_
  refine hV.run 4 [] (ws' := wX2 11 σ τ) (pc' := 16) (ls' := [(0, .ref 0), (1, .int a1), (2, .int a2)]) (st' := [.int ((σ 0 3) + ((J9_abs_0f7a4 (a1 - a2)) * (σ 0 4)))]) (ps := []) rfl trivial ?_
  subst h
  exact hV.ri rfl rfl rfl hP

def X2_tick (σ : am_M) (a1 : Int32) (a2 : Int32) : Option am_M := some (sC σ 8 (jput 8 (σ 8) a1 ((jat 8 (σ 8) a1) + a2)))
set_option maxRecDepth 100000 in
set_option maxHeartbeats 4000000 in
theorem c_X2_tick (l : Launch) (σ : am_M) (τ : Nat → Int64) (a1 : Int32) (a2 : Int32) (res : am_M) (h : X2_tick σ a1 a2 = some res) : am_Con l yX2_tick cX2_tick 3 none 2 [.ref 0, .int a1, .int a2] (wX2 11 σ τ) (fun (r : Option Value) (w : am_W) => r = none ∧ w = (wX2 11 res τ)) := by
  refine am_metn (n0 := 19) (own := RX2) (cd := am_cdT' tX2_tick) (rf := am_rfL rfX2) (ini := false) rfl (by decide +kernel) rfl (by decide) dX2_tick rfX2_ok (Nat.le_of_ble_eq_true rfl) ?_
  intro V hV
  have hP : (fun (r : Option Value) (w : am_W) => r = none ∧ w = (wX2 11 res τ)) none (wX2 11 res τ) := ⟨rfl, rfl⟩
  show V (wX2 11 σ τ) 0 [(0, .ref 0), (1, .int a1), (2, .int a2)] []
  unfold X2_tick at h
  refine hV.run 6 [] (ws' := wX2 11 σ τ) (pc' := 10) (ls' := [(0, .ref 0), (1, .int a1), (2, .int a2)]) (st' := [.int a1, .ref 8, .int a1, .ref 8]) (ps := []) rfl trivial ?_
  refine hV.cSi (as := [.ref 0, .int a1]) (js := [8]) (rest := [.int a1, .ref 8]) (st := [.int a1, .ref 8, .int a1, .ref 8]) (ws2 := wX2 11 σ τ) (pc2 := 13) kX2_110 (c_at l 1 8 (by decide) (σ 8) a1) rfl rfl rfl rfl rfl rfl rfl rfl rfl rfl ?_
  refine hV.run 2 [] (ws' := wX2 11 σ τ) (pc' := 15) (ls' := [(0, .ref 0), (1, .int a1), (2, .int a2)]) (st' := [.int ((jat 8 (σ 8) a1) + a2), .int a1, .ref 8]) (ps := []) rfl trivial ?_
  refine hV.cSv (as := [.ref 0, .int a1, .int ((jat 8 (σ 8) a1) + a2)]) (js := [8]) (rest := []) (st := [.int ((jat 8 (σ 8) a1) + a2), .int a1, .ref 8]) (ws2 := wX2 11 (sC σ 8 (jput 8 (σ 8) a1 ((jat 8 (σ 8) a1) + a2))) τ) (pc2 := 18) kX2_138 (c_put l 1 8 (by decide) (σ 8) a1 ((jat 8 (σ 8) a1) + a2)) rfl rfl rfl rfl rfl rfl rfl rfl rfl rfl ?_
  cases h
  exact hV.rv rfl rfl rfl hP

def X2_raise (σ : am_M) (a1 : Int32) (a2 : Int32) : Option am_M := if (a2 - (jat 8 (σ 8) a1)) ≤ 0 then (some σ) else (X2_tick σ a1 (a2 - (jat 8 (σ 8) a1))).bind (fun q2 => some (sC q2 9 (jput 8 (q2 9) a1 ((jat 8 (q2 9) a1) + (a2 - (jat 8 (σ 8) a1))))))
set_option maxRecDepth 100000 in
set_option maxHeartbeats 4000000 in
theorem c_X2_raise (l : Launch) (σ : am_M) (τ : Nat → Int64) (a1 : Int32) (a2 : Int32) (res : am_M) (h : X2_raise σ a1 a2 = some res) : am_Con l yX2_raise cX2_raise 4 none 3 [.ref 0, .int a1, .int a2] (wX2 11 σ τ) (fun (r : Option Value) (w : am_W) => r = none ∧ w = (wX2 11 res τ)) := by
  refine am_metn (n0 := 19) (own := RX2) (cd := am_cdT' tX2_raise) (rf := am_rfL rfX2) (ini := false) rfl (by decide +kernel) rfl (by decide) dX2_raise rfX2_ok (Nat.le_of_ble_eq_true rfl) ?_
  intro V hV
  have hP : (fun (r : Option Value) (w : am_W) => r = none ∧ w = (wX2 11 res τ)) none (wX2 11 res τ) := ⟨rfl, rfl⟩
  show V (wX2 11 σ τ) 0 [(0, .ref 0), (1, .int a1), (2, .int a2)] []
  unfold X2_raise at h
  refine hV.run 4 [] (ws' := wX2 11 σ τ) (pc' := 6) (ls' := [(0, .ref 0), (1, .int a1), (2, .int a2)]) (st' := [.int a1, .ref 8, .int a2]) (ps := []) rfl trivial ?_
  refine hV.cSi (as := [.ref 0, .int a1]) (js := [8]) (rest := [.int a2]) (st := [.int a1, .ref 8, .int a2]) (ws2 := wX2 11 σ τ) (pc2 := 9) kX2_110 (c_at l 1 8 (by decide) (σ 8) a1) rfl rfl rfl rfl rfl rfl rfl rfl rfl rfl ?_
  by_cases c1 : (a2 - (jat 8 (σ 8) a1)) ≤ 0
  · rw [if_pos c1] at h
    refine hV.run 4 [1] (ws' := wX2 11 σ τ) (pc' := 39) (ls' := [(3, .int (a2 - (jat 8 (σ 8) a1))), (0, .ref 0), (1, .int a1), (2, .int a2)]) (st' := []) (ps := [(a2 - (jat 8 (σ 8) a1)) ≤ 0]) rfl ⟨c1, trivial⟩ ?_
    cases h
    exact hV.rv rfl rfl rfl hP
  · rw [if_neg c1] at h
    refine hV.run 7 [0] (ws' := wX2 11 σ τ) (pc' := 18) (ls' := [(3, .int (a2 - (jat 8 (σ 8) a1))), (0, .ref 0), (1, .int a1), (2, .int a2)]) (st' := [.int (a2 - (jat 8 (σ 8) a1)), .int a1, .ref 0]) (ps := [¬ (a2 - (jat 8 (σ 8) a1)) ≤ 0]) rfl ⟨c1, trivial⟩ ?_
    obtain ⟨q2, hq2, h⟩ := am_bind h
    refine hV.cOv (as := [.int a1, .int (a2 - (jat 8 (σ 8) a1))]) (rest := []) (st := [.int (a2 - (jat 8 (σ 8) a1)), .int a1, .ref 0]) (ws2 := wX2 11 q2 τ) (pc2 := 21) kX2_175 (c_X2_tick l σ τ a1 (a2 - (jat 8 (σ 8) a1)) q2 hq2) rfl rfl rfl rfl rfl rfl rfl rfl rfl ?_
    refine hV.run 6 [] (ws' := wX2 11 q2 τ) (pc' := 31) (ls' := [(3, .int (a2 - (jat 8 (σ 8) a1))), (0, .ref 0), (1, .int a1), (2, .int a2)]) (st' := [.int a1, .ref 9, .int a1, .ref 9]) (ps := []) rfl trivial ?_
    refine hV.cSi (as := [.ref 0, .int a1]) (js := [9]) (rest := [.int a1, .ref 9]) (st := [.int a1, .ref 9, .int a1, .ref 9]) (ws2 := wX2 11 q2 τ) (pc2 := 34) kX2_110 (c_at l 1 8 (by decide) (q2 9) a1) rfl rfl rfl rfl rfl rfl rfl rfl rfl rfl ?_
    refine hV.run 2 [] (ws' := wX2 11 q2 τ) (pc' := 36) (ls' := [(3, .int (a2 - (jat 8 (σ 8) a1))), (0, .ref 0), (1, .int a1), (2, .int a2)]) (st' := [.int ((jat 8 (q2 9) a1) + (a2 - (jat 8 (σ 8) a1))), .int a1, .ref 9]) (ps := []) rfl trivial ?_
    refine hV.cSv (as := [.ref 0, .int a1, .int ((jat 8 (q2 9) a1) + (a2 - (jat 8 (σ 8) a1)))]) (js := [9]) (rest := []) (st := [.int ((jat 8 (q2 9) a1) + (a2 - (jat 8 (σ 8) a1))), .int a1, .ref 9]) (ws2 := wX2 11 (sC q2 9 (jput 8 (q2 9) a1 ((jat 8 (q2 9) a1) + (a2 - (jat 8 (σ 8) a1))))) τ) (pc2 := 39) kX2_138 (c_put l 1 8 (by decide) (q2 9) a1 ((jat 8 (q2 9) a1) + (a2 - (jat 8 (σ 8) a1)))) rfl rfl rfl rfl rfl rfl rfl rfl rfl rfl ?_
    cases h
    exact hV.rv rfl rfl rfl hP

def X2_stop (σ : am_M) (a1 : Int32) : Option am_M := (X2_set σ a1 1 1).bind (fun q1 => (X2_set q1 a1 10 0).bind (fun q2 => (X2_set q2 a1 11 0).bind (fun q3 => (X2_set q3 a1 12 0).bind (fun q4 => some q4))))
set_option maxRecDepth 100000 in
set_option maxHeartbeats 4000000 in
theorem c_X2_stop (l : Launch) (σ : am_M) (τ : Nat → Int64) (a1 : Int32) (res : am_M) (h : X2_stop σ a1 = some res) : am_Con l yX2_stop cX2_stop 2 none 2 [.ref 0, .int a1] (wX2 11 σ τ) (fun (r : Option Value) (w : am_W) => r = none ∧ w = (wX2 11 res τ)) := by
  refine am_metn (n0 := 19) (own := RX2) (cd := am_cdT' tX2_stop) (rf := am_rfL rfX2) (ini := false) rfl (by decide +kernel) rfl (by decide) dX2_stop rfX2_ok (Nat.le_of_ble_eq_true rfl) ?_
  intro V hV
  have hP : (fun (r : Option Value) (w : am_W) => r = none ∧ w = (wX2 11 res τ)) none (wX2 11 res τ) := ⟨rfl, rfl⟩
  show V (wX2 11 σ τ) 0 [(0, .ref 0), (1, .int a1)] []
  unfold X2_stop at h
  refine hV.run 4 [] (ws' := wX2 11 σ τ) (pc' := 4) (ls' := [(0, .ref 0), (1, .int a1)]) (st' := [.int 1, .int 1, .int a1, .ref 0]) (ps := []) rfl trivial ?_
  obtain ⟨q1, hq1, h⟩ := am_bind h
  refine hV.cOv (as := [.int a1, .int 1, .int 1]) (rest := []) (st := [.int 1, .int 1, .int a1, .ref 0]) (ws2 := wX2 11 q1 τ) (pc2 := 7) kX2_73 (c_X2_set l σ τ a1 1 1 q1 hq1) rfl rfl rfl rfl rfl rfl rfl rfl rfl ?_
  refine hV.run 4 [] (ws' := wX2 11 q1 τ) (pc' := 12) (ls' := [(0, .ref 0), (1, .int a1)]) (st' := [.int 0, .int 10, .int a1, .ref 0]) (ps := []) rfl trivial ?_
  obtain ⟨q2, hq2, h⟩ := am_bind h
  refine hV.cOv (as := [.int a1, .int 10, .int 0]) (rest := []) (st := [.int 0, .int 10, .int a1, .ref 0]) (ws2 := wX2 11 q2 τ) (pc2 := 15) kX2_73 (c_X2_set l q1 τ a1 10 0 q2 hq2) rfl rfl rfl rfl rfl rfl rfl rfl rfl ?_
  refine hV.run 4 [] (ws' := wX2 11 q2 τ) (pc' := 20) (ls' := [(0, .ref 0), (1, .int a1)]) (st' := [.int 0, .int 11, .int a1, .ref 0]) (ps := []) rfl trivial ?_
  obtain ⟨q3, hq3, h⟩ := am_bind h
  refine hV.cOv (as := [.int a1, .int 11, .int 0]) (rest := []) (st := [.int 0, .int 11, .int a1, .ref 0]) (ws2 := wX2 11 q3 τ) (pc2 := 23) kX2_73 (c_X2_set l q2 τ a1 11 0 q3 hq3) rfl rfl rfl rfl rfl rfl rfl rfl rfl ?_
  refine hV.run 4 [] (ws' := wX2 11 q3 τ) (pc' := 28) (ls' := [(0, .ref 0), (1, .int a1)]) (st' := [.int 0, .int 12, .int a1, .ref 0]) (ps := []) rfl trivial ?_
  obtain ⟨q4, hq4, h⟩ := am_bind h
  refine hV.cOv (as := [.int a1, .int 12, .int 0]) (rest := []) (st := [.int 0, .int 12, .int a1, .ref 0]) (ws2 := wX2 11 q4 τ) (pc2 := 31) kX2_73 (c_X2_set l q3 τ a1 12 0 q4 hq4) rfl rfl rfl rfl rfl rfl rfl rfl rfl ?_
  cases h
  exact hV.rv rfl rfl rfl hP

