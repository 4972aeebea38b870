def wX2 (x : Nat) (σ : am_M) (τ : Nat → Int64) : am_W := [.inr (2, [.ref x, .int (σ 0 1), .int (σ 0 2), .int (σ 0 3), .int (σ 0 4), .long (τ 0), .ref 1, .ref 2, .ref 7, .ref 8, .ref 9, .ref 10, .int (σ 0 12), .int (σ 0 13), .int (σ 0 14), .int (σ 0 15)]),
  .inl (0, 104, .inl (σ 1)),
  .inr (6, [.ref 3, .ref 4, .ref 5, .ref 6, .int (σ 2 4)]),
  .inl (0, 320, .inl (σ 3)),
  .inl (0, 320, .inl (σ 4)),
  .inl (0, 320, .inl (σ 5)),
  .inl (0, 320, .inl (σ 6)),
  .inl (0, 40, .inl (σ 7)),
  .inl (0, 8, .inl (σ 8)),
  .inl (0, 8, .inl (σ 9)),
  .inl (0, 8, .inl (σ 10)),
  .inr (3, [.ref 12, .ref 13, .ref 14, .ref 15, .ref 16, .ref 17, .ref 18, .int (σ 11 7), .int (σ 11 8), .int (σ 11 9)]),
  .inl (0, 40, .inl (σ 12)),
  .inl (0, 40, .inl (σ 13)),
  .inl (0, 40, .inl (σ 14)),
  .inl (0, 40, .inl (σ 15)),
  .inl (0, 40, .inl (σ 16)),
  .inl (0, 120, .inl (σ 17)),
  .inl (0, 900, .inl (σ 18))]
def X2_get (σ : am_M) (a1 : Int32) (a2 : Int32) : Int32 := if ((a1 * 13) + a2) < 0 then (0) else (if (Int32.ofNat 104) ≤ ((a1 * 13) + a2) then (0) else (σ 1 ((a1 * 13) + a2).toNatClampNeg))
set_option maxRecDepth 100000 in
theorem c_X2_get (l : Launch) (σ : am_M) (τ : Nat → Int64) (a1 : Int32) (a2 : Int32) : am_Con l yX2_get cX2_get 4 (some .int) 1 [.ref 0, .int a1, .int a2] (wX2 11 σ τ) (fun (r : Option Value) (w : am_W) => r = (some (.int (X2_get σ a1 a2))) ∧ w = (wX2 11 σ τ)) := by
  obtain ⟨res, h⟩ : ∃ res, (X2_get σ a1 a2) = res := ⟨_, rfl⟩
  rw [h]
  refine am_met (own := RX2) (cd := am_cdT' tX2_get) (rf := am_rfL rfX2) (ini := false) (by decide +kernel) rfl (by decide) dX2_get rfX2_ok (Nat.le_of_ble_eq_true rfl) ?_
  intro V hV
  have hP : (fun (r : Option Value) (w : am_W) => r = (some (.int res)) ∧ w = (wX2 11 σ τ)) (some (.int res)) (wX2 11 σ τ) := ⟨rfl, rfl⟩
  show V (wX2 11 σ τ) 0 [(0, .ref 0), (1, .int a1), (2, .int a2)] []
  unfold X2_get at h
  by_cases c1 : ((a1 * 13) + a2) < 0
  · rw [if_pos c1] at h
    refine hV.run 9 [1] (ws' := wX2 11 σ τ) (pc' := 30) (ls' := [(3, .int ((a1 * 13) + a2)), (0, .ref 0), (1, .int a1), (2, .int a2)]) (st' := [.int 0]) (ps := [((a1 * 13) + a2) < 0]) rfl ⟨c1, trivial⟩ ?_
    subst h
    exact hV.ri rfl rfl rfl hP
  · rw [if_neg c1] at h
    by_cases c2 : (Int32.ofNat 104) ≤ ((a1 * 13) + a2)
    · rw [if_pos c2] at h
      refine hV.run 14 [0, 1] (ws' := wX2 11 σ τ) (pc' := 30) (ls' := [(3, .int ((a1 * 13) + a2)), (0, .ref 0), (1, .int a1), (2, .int a2)]) (st' := [.int 0]) (ps := [¬ ((a1 * 13) + a2) < 0, (Int32.ofNat 104) ≤ ((a1 * 13) + a2)]) rfl ⟨c1, c2, trivial⟩ ?_
      subst h
      exact hV.ri rfl rfl rfl hP
    · rw [if_neg c2] at h
      refine hV.run 18 [0, 0] (ws' := wX2 11 σ τ) (pc' := 30) (ls' := [(3, .int ((a1 * 13) + a2)), (0, .ref 0), (1, .int a1), (2, .int a2)]) (st' := [.int (σ 1 ((a1 * 13) + a2).toNatClampNeg)]) (ps := [¬ ((a1 * 13) + a2) < 0, ¬ (Int32.ofNat 104) ≤ ((a1 * 13) + a2), vp_in ((a1 * 13) + a2) 104]) rfl ⟨c1, c2, (am_in1 c1 c2 (by decide)), trivial⟩ ?_
      subst h
      exact hV.ri rfl rfl rfl hP

def X2_set (σ : am_M) (a1 : Int32) (a2 : Int32) (a3 : Int32) : Option am_M := if ((a1 * 13) + a2) < 0 then (some σ) else (if (Int32.ofNat 104) ≤ ((a1 * 13) + a2) then (some σ) else (some (sC σ 1 (upd (σ 1) ((a1 * 13) + a2).toNatClampNeg a3))))
set_option maxRecDepth 100000 in
theorem c_X2_set (l : Launch) (σ : am_M) (τ : Nat → Int64) (a1 : Int32) (a2 : Int32) (a3 : Int32) (res : am_M) (h : X2_set σ a1 a2 a3 = some res) : am_Con l yX2_set cX2_set 5 none 1 [.ref 0, .int a1, .int a2, .int a3] (wX2 11 σ τ) (fun (r : Option Value) (w : am_W) => r = none ∧ w = (wX2 11 res τ)) := by
  refine am_met (own := RX2) (cd := am_cdT' tX2_set) (rf := am_rfL rfX2) (ini := false) (by decide +kernel) rfl (by decide) dX2_set rfX2_ok (Nat.le_of_ble_eq_true rfl) ?_
  intro V hV
  have hP : (fun (r : Option Value) (w : am_W) => r = none ∧ w = (wX2 11 res τ)) none (wX2 11 res τ) := ⟨rfl, rfl⟩
  show V (wX2 11 σ τ) 0 [(0, .ref 0), (1, .int a1), (2, .int a2), (3, .int a3)] []
  unfold X2_set at h
  by_cases c1 : ((a1 * 13) + a2) < 0
  · rw [if_pos c1] at h
    refine hV.run 8 [1] (ws' := wX2 11 σ τ) (pc' := 31) (ls' := [(4, .int ((a1 * 13) + a2)), (0, .ref 0), (1, .int a1), (2, .int a2), (3, .int a3)]) (st' := []) (ps := [((a1 * 13) + a2) < 0]) rfl ⟨c1, trivial⟩ ?_
    cases h
    exact hV.rv rfl rfl rfl hP
  · rw [if_neg c1] at h
    by_cases c2 : (Int32.ofNat 104) ≤ ((a1 * 13) + a2)
    · rw [if_pos c2] at h
      refine hV.run 13 [0, 1] (ws' := wX2 11 σ τ) (pc' := 31) (ls' := [(4, .int ((a1 * 13) + a2)), (0, .ref 0), (1, .int a1), (2, .int a2), (3, .int a3)]) (st' := []) (ps := [¬ ((a1 * 13) + a2) < 0, (Int32.ofNat 104) ≤ ((a1 * 13) + a2)]) rfl ⟨c1, c2, trivial⟩ ?_
      cases h
      exact hV.rv rfl rfl rfl hP
    · rw [if_neg c2] at h
      refine hV.run 18 [0, 0] (ws' := wX2 11 (sC σ 1 (upd (σ 1) ((a1 * 13) + a2).toNatClampNeg a3)) τ) (pc' := 31) (ls' := [(4, .int ((a1 * 13) + a2)), (0, .ref 0), (1, .int a1), (2, .int a2), (3, .int a3)]) (st' := []) (ps := [¬ ((a1 * 13) + a2) < 0, ¬ (Int32.ofNat 104) ≤ ((a1 * 13) + a2), vp_in ((a1 * 13) + a2) 104]) rfl ⟨c1, c2, (am_in1 c1 c2 (by decide)), trivial⟩ ?_
      cases h
      exact hV.rv rfl rfl rfl hP

def X2_isHand (σ : am_M) (a1 : Int32) : Bool := if a1 < 0 then (false) else (if (σ 0 1) ≤ a1 then (false) else (true))
set_option maxRecDepth 100000 in
theorem c_X2_isHand (l : Launch) (σ : am_M) (τ : Nat → Int64) (a1 : Int32) : am_Con l yX2_isHand cX2_isHand 2 (some .boolean) 1 [.ref 0, .int a1] (wX2 11 σ τ) (fun (r : Option Value) (w : am_W) => r = (some (.int (b2i (X2_isHand σ a1)))) ∧ w = (wX2 11 σ τ)) := by
  obtain ⟨res, h⟩ : ∃ res, (X2_isHand σ a1) = res := ⟨_, rfl⟩
  rw [h]
  refine am_met (own := RX2) (cd := am_cdT' tX2_isHand) (rf := am_rfL rfX2) (ini := false) (by decide +kernel) rfl (by decide) dX2_isHand rfX2_ok (Nat.le_of_ble_eq_true rfl) ?_
  intro V hV
  have hP : (fun (r : Option Value) (w : am_W) => r = (some (.int (b2i res))) ∧ w = (wX2 11 σ τ)) (some (.int (b2i res))) (wX2 11 σ τ) := ⟨rfl, rfl⟩
  show V (wX2 11 σ τ) 0 [(0, .ref 0), (1, .int a1)] []
  unfold X2_isHand at h
  by_cases c1 : a1 < 0
  · rw [if_pos c1] at h
    refine hV.run 3 [1] (ws' := wX2 11 σ τ) (pc' := 17) (ls' := [(0, .ref 0), (1, .int a1)]) (st' := [.int 0]) (ps := [a1 < 0]) rfl ⟨c1, trivial⟩ ?_
    subst h
    exact hV.rz rfl rfl rfl (Or.inl rfl) hP
  · rw [if_neg c1] at h
    by_cases c2 : (σ 0 1) ≤ a1
    · rw [if_pos c2] at h
      refine hV.run 7 [0, 1] (ws' := wX2 11 σ τ) (pc' := 17) (ls' := [(0, .ref 0), (1, .int a1)]) (st' := [.int 0]) (ps := [¬ a1 < 0, (σ 0 1) ≤ a1]) rfl ⟨c1, c2, trivial⟩ ?_
      subst h
      exact hV.rz rfl rfl rfl (Or.inl rfl) hP
    · rw [if_neg c2] at h
      refine hV.run 8 [0, 0] (ws' := wX2 11 σ τ) (pc' := 17) (ls' := [(0, .ref 0), (1, .int a1)]) (st' := [.int 1]) (ps := [¬ a1 < 0, ¬ (σ 0 1) ≤ a1]) rfl ⟨c1, c2, trivial⟩ ?_
      subst h
      exact hV.rz rfl rfl rfl (Or.inr rfl) hP

def X2_hasEnded (σ : am_M) (a1 : Int32) : Bool := if (X2_get σ a1 0) = (-1) then (true) else (false)
set_option maxRecDepth 100000 in
theorem c_X2_hasEnded (l : Launch) (σ : am_M) (τ : Nat → Int64) (a1 : Int32) : am_Con l yX2_hasEnded cX2_hasEnded 2 (some .boolean) 2 [.ref 0, .int a1] (wX2 11 σ τ) (fun (r : Option Value) (w : am_W) => r = (some (.int (b2i (X2_hasEnded σ a1)))) ∧ w = (wX2 11 σ τ)) := by
  obtain ⟨res, h⟩ : ∃ res, (X2_hasEnded σ a1) = res := ⟨_, rfl⟩
  rw [h]
  refine am_met (own := RX2) (cd := am_cdT' tX2_hasEnded) (rf := am_rfL rfX2) (ini := false) (by decide +kernel) rfl (by decide) dX2_hasEnded rfX2_ok (Nat.le_of_ble_eq_true rfl) ?_
  intro V hV
  have hP : (fun (r : Option Value) (w : am_W) => r = (some (.int (b2i res))) ∧ w = (wX2 11 σ τ)) (some (.int (b2i res))) (wX2 11 σ τ) := ⟨rfl, rfl⟩
  show V (wX2 11 σ τ) 0 [(0, .ref 0), (1, .int a1)] []
  unfold X2_hasEnded at h
  refine hV.run 3 [] (ws' := wX2 11 σ τ) (pc' := 3) (ls' := [(0, .ref 0), (1, .int a1)]) (st' := [.int 0, .int a1, .ref 0]) (ps := []) rfl trivial ?_
  refine hV.cVi (as := [.int a1, .int 0]) (js := [0, 1, 2, 3, 4, 5, 6, 7, 8, 9, 10, 11, 12, 13, 14, 15, 16, 17, 18]) (rest := []) (st := [.int 0, .int a1, .ref 0]) (ws2 := wX2 11 σ τ) (pc2 := 6) kX2_81 (c_X2_get l σ τ a1 0) rfl rfl rfl rfl rfl rfl rfl rfl rfl rfl rfl rfl ?_
  by_cases c1 : (X2_get σ a1 0) = (-1)
  · rw [if_pos c1] at h
    refine hV.run 4 [0] (ws' := wX2 11 σ τ) (pc' := 15) (ls' := [(0, .ref 0), (1, .int a1)]) (st' := [.int 1]) (ps := [(X2_get σ a1 0) = (-1)]) rfl ⟨c1, trivial⟩ ?_
    subst h
    exact hV.rz rfl rfl rfl (Or.inr rfl) hP
  · rw [if_neg c1] at h
    refine hV.run 3 [1] (ws' := wX2 11 σ τ) (pc' := 15) (ls' := [(0, .ref 0), (1, .int a1)]) (st' := [.int 0]) (ps := [¬ (X2_get σ a1 0) = (-1)]) rfl ⟨c1, trivial⟩ ?_
    subst h
    exact hV.rz rfl rfl rfl (Or.inl rfl) hP

def X2_hasDone (σ : am_M) (a1 : Int32) : Option am_M := some (sC σ 0 (upd (σ 0) 15 ((σ 0 15) ||| (1 <<< (a1 &&& 31)))))
set_option maxRecDepth 100000 in
theorem c_X2_hasDone (l : Launch) (σ : am_M) (τ : Nat → Int64) (a1 : Int32) (res : am_M) (h : X2_hasDone σ a1 = some res) : am_Con l yX2_hasDone cX2_hasDone 2 none 1 [.ref 0, .int a1] (wX2 11 σ τ) (fun (r : Option Value) (w : am_W) => r = none ∧ w = (wX2 11 res τ)) := by
  refine am_met (own := RX2) (cd := am_cdT' tX2_hasDone) (rf := am_rfL rfX2) (ini := false) (by decide +kernel) rfl (by decide) dX2_hasDone rfX2_ok (Nat.le_of_ble_eq_true rfl) ?_
  intro V hV
  have hP : (fun (r : Option Value) (w : am_W) => r = none ∧ w = (wX2 11 res τ)) none (wX2 11 res τ) := ⟨rfl, rfl⟩
  show V (wX2 11 σ τ) 0 [(0, .ref 0), (1, .int a1)] []
  unfold X2_hasDone at h
  refine hV.run 8 [] (ws' := wX2 11 (sC σ 0 (upd (σ 0) 15 ((σ 0 15) ||| (1 <<< (a1 &&& 31))))) τ) (pc' := 12) (ls' := [(0, .ref 0), (1, .int a1)]) (st' := []) (ps := []) rfl trivial ?_
  cases h
  exact hV.rv rfl rfl rfl hP

def X2_isLeftOut (σ : am_M) (τ : Nat → Int64) (a1 : Int32) : Bool := if (lg_cmp ((am_lushr (τ 0) a1) &&& 1) 1) = 0 then (true) else (false)
set_option maxRecDepth 100000 in
theorem c_X2_isLeftOut (l : Launch) (σ : am_M) (τ : Nat → Int64) (a1 : Int32) : am_Con l yX2_isLeftOut cX2_isLeftOut 2 (some .boolean) 1 [.ref 0, .int a1] (wX2 11 σ τ) (fun (r : Option Value) (w : am_W) => r = (some (.int (b2i (X2_isLeftOut σ τ a1)))) ∧ w = (wX2 11 σ τ)) := by
  obtain ⟨res, h⟩ : ∃ res, (X2_isLeftOut σ τ a1) = res := ⟨_, rfl⟩
  rw [h]
  refine am_met (own := RX2) (cd := am_cdT' tX2_isLeftOut) (rf := am_rfL rfX2) (ini := false) (by decide +kernel) rfl (by decide) dX2_isLeftOut rfX2_ok (Nat.le_of_ble_eq_true rfl) ?_
  intro V hV
  have hP : (fun (r : Option Value) (w : am_W) => r = (some (.int (b2i res))) ∧ w = (wX2 11 σ τ)) (some (.int (b2i res))) (wX2 11 σ τ) := ⟨rfl, rfl⟩
  show V (wX2 11 σ τ) 0 [(0, .ref 0), (1, .int a1)] []
  unfold X2_isLeftOut at h
  by_cases c1 : (lg_cmp ((am_lushr (τ 0) a1) &&& 1) 1) = 0
  · rw [if_pos c1] at h
    refine hV.run 11 [0] (ws' := wX2 11 σ τ) (pc' := 18) (ls' := [(0, .ref 0), (1, .int a1)]) (st' := [.int 1]) (ps := [(lg_cmp ((am_lushr (τ 0) a1) &&& 1) 1) = 0]) rfl ⟨c1, trivial⟩ ?_
    subst h
    exact hV.rz rfl rfl rfl (Or.inr rfl) hP
  · rw [if_neg c1] at h
    refine hV.run 10 [1] (ws' := wX2 11 σ τ) (pc' := 18) (ls' := [(0, .ref 0), (1, .int a1)]) (st' := [.int 0]) (ps := [¬ (lg_cmp ((am_lushr (τ 0) a1) &&& 1) 1) = 0]) rfl ⟨c1, trivial⟩ ?_
    subst h
    exact hV.rz rfl rfl rfl (Or.inl rfl) hP

def X2_far (σ : am_M) (a1 : Int32) (a2 : Int32) : Int32 := ((σ 0 3) + ((J9_abs_0f7a4 (a1 - a2)) * (σ 0 4)))
set_option maxRecDepth 100000 in
theorem c_X2_far (l : Launch) (σ : am_M) (τ : Nat → Int64) (a1 : Int32) (a2 : Int32) : am_Con l yX2_far cX2_far 3 (some .int) 2 [.ref 0, .int a1, .int a2] (wX2 11 σ τ) (fun (r : Option Value) (w : am_W) => r = (some (.int (X2_far σ a1 a2))) ∧ w = (wX2 11 σ τ)) := by
  obtain ⟨res, h⟩ : ∃ res, (X2_far σ a1 a2) = res := ⟨_, rfl⟩
  rw [h]
  refine am_met (own := RX2) (cd := am_cdT' tX2_far) (rf := am_rfL rfX2) (ini := false) (by decide +kernel) rfl (by decide) dX2_far rfX2_ok (Nat.le_of_ble_eq_true rfl) ?_
  intro V hV
  have hP : (fun (r : Option Value) (w : am_W) => r = (some (.int res)) ∧ w = (wX2 11 σ τ)) (some (.int res)) (wX2 11 σ τ) := ⟨rfl, rfl⟩
  show V (wX2 11 σ τ) 0 [(0, .ref 0), (1, .int a1), (2, .int a2)] []
  unfold X2_far at h
  refine hV.run 5 [] (ws' := wX2 11 σ τ) (pc' := 7) (ls' := [(0, .ref 0), (1, .int a1), (2, .int a2)]) (st' := [.int (a1 - a2), .int (σ 0 3)]) (ps := []) rfl trivial ?_
  refine hV.cSi (as := [.int (a1 - a2)]) (js := []) (rest := [.int (σ 0 3)]) (st := [.int (a1 - a2), .int (σ 0 3)]) (ws2 := wX2 11 σ τ) (pc2 := 10) kX2_227 (c_J9_abs_0f7a4 l (a1 - a2)) rfl rfl rfl rfl rfl rfl rfl rfl rfl rfl ?_
  refine hV.run 4 [] (ws' := wX2 11 σ τ) (pc' := 16) (ls' := [(0, .ref 0), (1, .int a1), (2, .int a2)]) (st' := [.int ((σ 0 3) + ((J9_abs_0f7a4 (a1 - a2)) * (σ 0 4)))]) (ps := []) rfl trivial ?_
  subst h
  exact hV.ri rfl rfl rfl hP

def X2_tick (σ : am_M) (a1 : Int32) (a2 : Int32) : Option am_M := some (sC σ 8 (jput 8 (σ 8) a1 ((jat 8 (σ 8) a1) + a2)))
set_option maxRecDepth 100000 in
theorem c_X2_tick (l : Launch) (σ : am_M) (τ : Nat → Int64) (a1 : Int32) (a2 : Int32) (res : am_M) (h : X2_tick σ a1 a2 = some res) : am_Con l yX2_tick cX2_tick 3 none 2 [.ref 0, .int a1, .int a2] (wX2 11 σ τ) (fun (r : Option Value) (w : am_W) => r = none ∧ w = (wX2 11 res τ)) := by
  refine am_met (own := RX2) (cd := am_cdT' tX2_tick) (rf := am_rfL rfX2) (ini := false) (by decide +kernel) rfl (by decide) dX2_tick rfX2_ok (Nat.le_of_ble_eq_true rfl) ?_
  intro V hV
  have hP : (fun (r : Option Value) (w : am_W) => r = none ∧ w = (wX2 11 res τ)) none (wX2 11 res τ) := ⟨rfl, rfl⟩
  show V (wX2 11 σ τ) 0 [(0, .ref 0), (1, .int a1), (2, .int a2)] []
  unfold X2_tick at h
  refine hV.run 6 [] (ws' := wX2 11 σ τ) (pc' := 10) (ls' := [(0, .ref 0), (1, .int a1), (2, .int a2)]) (st' := [.int a1, .ref 8, .int a1, .ref 8]) (ps := []) rfl trivial ?_
  refine hV.cSi (as := [.ref 0, .int a1]) (js := [8]) (rest := [.int a1, .ref 8]) (st := [.int a1, .ref 8, .int a1, .ref 8]) (ws2 := wX2 11 σ τ) (pc2 := 13) kX2_110 (c_at l 1 8 (by decide) (σ 8) a1) rfl rfl rfl rfl rfl rfl rfl rfl rfl rfl ?_
  refine hV.run 2 [] (ws' := wX2 11 σ τ) (pc' := 15) (ls' := [(0, .ref 0), (1, .int a1), (2, .int a2)]) (st' := [.int ((jat 8 (σ 8) a1) + a2), .int a1, .ref 8]) (ps := []) rfl trivial ?_
  refine hV.cSv (as := [.ref 0, .int a1, .int ((jat 8 (σ 8) a1) + a2)]) (js := [8]) (rest := []) (st := [.int ((jat 8 (σ 8) a1) + a2), .int a1, .ref 8]) (ws2 := wX2 11 (sC σ 8 (jput 8 (σ 8) a1 ((jat 8 (σ 8) a1) + a2))) τ) (pc2 := 18) kX2_138 (c_put l 1 8 (by decide) (σ 8) a1 ((jat 8 (σ 8) a1) + a2)) rfl rfl rfl rfl rfl rfl rfl rfl rfl rfl ?_
  cases h
  exact hV.rv rfl rfl rfl hP

def X2_raise (σ : am_M) (a1 : Int32) (a2 : Int32) : Option am_M := if (a2 - (jat 8 (σ 8) a1)) ≤ 0 then (some σ) else (X2_tick σ a1 (a2 - (jat 8 (σ 8) a1))).bind (fun q2 => some (sC q2 9 (jput 8 (q2 9) a1 ((jat 8 (q2 9) a1) + (a2 - (jat 8 (σ 8) a1))))))
set_option maxRecDepth 100000 in
theorem c_X2_raise (l : Launch) (σ : am_M) (τ : Nat → Int64) (a1 : Int32) (a2 : Int32) (res : am_M) (h : X2_raise σ a1 a2 = some res) : am_Con l yX2_raise cX2_raise 4 none 3 [.ref 0, .int a1, .int a2] (wX2 11 σ τ) (fun (r : Option Value) (w : am_W) => r = none ∧ w = (wX2 11 res τ)) := by
  refine am_met (own := RX2) (cd := am_cdT' tX2_raise) (rf := am_rfL rfX2) (ini := false) (by decide +kernel) rfl (by decide) dX2_raise rfX2_ok (Nat.le_of_ble_eq_true rfl) ?_
  intro V hV
  have hP : (fun (r : Option Value) (w : am_W) => r = none ∧ w = (wX2 11 res τ)) none (wX2 11 res τ) := ⟨rfl, rfl⟩
  show V (wX2 11 σ τ) 0 [(0, .ref 0), (1, .int a1), (2, .int a2)] []
  unfold X2_raise at h
  refine hV.run 4 [] (ws' := wX2 11 σ τ) (pc' := 6) (ls' := [(0, .ref 0), (1, .int a1), (2, .int a2)]) (st' := [.int a1, .ref 8, .int a2]) (ps := []) rfl trivial ?_
  refine hV.cSi (as := [.ref 0, .int a1]) (js := [8]) (rest := [.int a2]) (st := [.int a1, .ref 8, .int a2]) (ws2 := wX2 11 σ τ) (pc2 := 9) kX2_110 (c_at l 1 8 (by decide) (σ 8) a1) rfl rfl rfl rfl rfl rfl rfl rfl rfl rfl ?_
  by_cases c1 : (a2 - (jat 8 (σ 8) a1)) ≤ 0
  · rw [if_pos c1] at h
    refine hV.run 4 [1] (ws' := wX2 11 σ τ) (pc' := 39) (ls' := [(3, .int (a2 - (jat 8 (σ 8) a1))), (0, .ref 0), (1, .int a1), (2, .int a2)]) (st' := []) (ps := [(a2 - (jat 8 (σ 8) a1)) ≤ 0]) rfl ⟨c1, trivial⟩ ?_
    cases h
    exact hV.rv rfl rfl rfl hP
  · rw [if_neg c1] at h
    refine hV.run 7 [0] (ws' := wX2 11 σ τ) (pc' := 18) (ls' := [(3, .int (a2 - (jat 8 (σ 8) a1))), (0, .ref 0), (1, .int a1), (2, .int a2)]) (st' := [.int (a2 - (jat 8 (σ 8) a1)), .int a1, .ref 0]) (ps := [¬ (a2 - (jat 8 (σ 8) a1)) ≤ 0]) rfl ⟨c1, trivial⟩ ?_
    obtain ⟨q2, hq2, h⟩ := am_bind h
    refine hV.cVv (as := [.int a1, .int (a2 - (jat 8 (σ 8) a1))]) (js := [0, 1, 2, 3, 4, 5, 6, 7, 8, 9, 10, 11, 12, 13, 14, 15, 16, 17, 18]) (rest := []) (st := [.int (a2 - (jat 8 (σ 8) a1)), .int a1, .ref 0]) (ws2 := wX2 11 q2 τ) (pc2 := 21) kX2_175 (c_X2_tick l σ τ a1 (a2 - (jat 8 (σ 8) a1)) q2 hq2) rfl rfl rfl rfl rfl rfl rfl rfl rfl rfl rfl rfl ?_
    refine hV.run 6 [] (ws' := wX2 11 q2 τ) (pc' := 31) (ls' := [(3, .int (a2 - (jat 8 (σ 8) a1))), (0, .ref 0), (1, .int a1), (2, .int a2)]) (st' := [.int a1, .ref 9, .int a1, .ref 9]) (ps := []) rfl trivial ?_
    refine hV.cSi (as := [.ref 0, .int a1]) (js := [9]) (rest := [.int a1, .ref 9]) (st := [.int a1, .ref 9, .int a1, .ref 9]) (ws2 := wX2 11 q2 τ) (pc2 := 34) kX2_110 (c_at l 1 8 (by decide) (q2 9) a1) rfl rfl rfl rfl rfl rfl rfl rfl rfl rfl ?_
    refine hV.run 2 [] (ws' := wX2 11 q2 τ) (pc' := 36) (ls' := [(3, .int (a2 - (jat 8 (σ 8) a1))), (0, .ref 0), (1, .int a1), (2, .int a2)]) (st' := [.int ((jat 8 (q2 9) a1) + (a2 - (jat 8 (σ 8) a1))), .int a1, .ref 9]) (ps := []) rfl trivial ?_
    refine hV.cSv (as := [.ref 0, .int a1, .int ((jat 8 (q2 9) a1) + (a2 - (jat 8 (σ 8) a1)))]) (js := [9]) (rest := []) (st := [.int ((jat 8 (q2 9) a1) + (a2 - (jat 8 (σ 8) a1))), .int a1, .ref 9]) (ws2 := wX2 11 (sC q2 9 (jput 8 (q2 9) a1 ((jat 8 (q2 9) a1) + (a2 - (jat 8 (σ 8) a1))))) τ) (pc2 := 39) kX2_138 (c_put l 1 8 (by decide) (q2 9) a1 ((jat 8 (q2 9) a1) + (a2 - (jat 8 (σ 8) a1)))) rfl rfl rfl rfl rfl rfl rfl rfl rfl rfl ?_
    cases h
    exact hV.rv rfl rfl rfl hP

def X2_stop (σ : am_M) (a1 : Int32) : Option am_M := (X2_set σ a1 1 1).bind (fun q1 => (X2_set q1 a1 10 0).bind (fun q2 => (X2_set q2 a1 11 0).bind (fun q3 => (X2_set q3 a1 12 0).bind (fun q4 => some q4))))
set_option maxRecDepth 100000 in
theorem c_X2_stop (l : Launch) (σ : am_M) (τ : Nat → Int64) (a1 : Int32) (res : am_M) (h : X2_stop σ a1 = some res) : am_Con l yX2_stop cX2_stop 2 none 2 [.ref 0, .int a1] (wX2 11 σ τ) (fun (r : Option Value) (w : am_W) => r = none ∧ w = (wX2 11 res τ)) := by
  refine am_met (own := RX2) (cd := am_cdT' tX2_stop) (rf := am_rfL rfX2) (ini := false) (by decide +kernel) rfl (by decide) dX2_stop rfX2_ok (Nat.le_of_ble_eq_true rfl) ?_
  intro V hV
  have hP : (fun (r : Option Value) (w : am_W) => r = none ∧ w = (wX2 11 res τ)) none (wX2 11 res τ) := ⟨rfl, rfl⟩
  show V (wX2 11 σ τ) 0 [(0, .ref 0), (1, .int a1)] []
  unfold X2_stop at h
  refine hV.run 4 [] (ws' := wX2 11 σ τ) (pc' := 4) (ls' := [(0, .ref 0), (1, .int a1)]) (st' := [.int 1, .int 1, .int a1, .ref 0]) (ps := []) rfl trivial ?_
  obtain ⟨q1, hq1, h⟩ := am_bind h
  refine hV.cVv (as := [.int a1, .int 1, .int 1]) (js := [0, 1, 2, 3, 4, 5, 6, 7, 8, 9, 10, 11, 12, 13, 14, 15, 16, 17, 18]) (rest := []) (st := [.int 1, .int 1, .int a1, .ref 0]) (ws2 := wX2 11 q1 τ) (pc2 := 7) kX2_73 (c_X2_set l σ τ a1 1 1 q1 hq1) rfl rfl rfl rfl rfl rfl rfl rfl rfl rfl rfl rfl ?_
  refine hV.run 4 [] (ws' := wX2 11 q1 τ) (pc' := 12) (ls' := [(0, .ref 0), (1, .int a1)]) (st' := [.int 0, .int 10, .int a1, .ref 0]) (ps := []) rfl trivial ?_
  obtain ⟨q2, hq2, h⟩ := am_bind h
  refine hV.cVv (as := [.int a1, .int 10, .int 0]) (js := [0, 1, 2, 3, 4, 5, 6, 7, 8, 9, 10, 11, 12, 13, 14, 15, 16, 17, 18]) (rest := []) (st := [.int 0, .int 10, .int a1, .ref 0]) (ws2 := wX2 11 q2 τ) (pc2 := 15) kX2_73 (c_X2_set l q1 τ a1 10 0 q2 hq2) rfl rfl rfl rfl rfl rfl rfl rfl rfl rfl rfl rfl ?_
  refine hV.run 4 [] (ws' := wX2 11 q2 τ) (pc' := 20) (ls' := [(0, .ref 0), (1, .int a1)]) (st' := [.int 0, .int 11, .int a1, .ref 0]) (ps := []) rfl trivial ?_
  obtain ⟨q3, hq3, h⟩ := am_bind h
  refine hV.cVv (as := [.int a1, .int 11, .int 0]) (js := [0, 1, 2, 3, 4, 5, 6, 7, 8, 9, 10, 11, 12, 13, 14, 15, 16, 17, 18]) (rest := []) (st := [.int 0, .int 11, .int a1, .ref 0]) (ws2 := wX2 11 q3 τ) (pc2 := 23) kX2_73 (c_X2_set l q2 τ a1 11 0 q3 hq3) rfl rfl rfl rfl rfl rfl rfl rfl rfl rfl rfl rfl ?_
  refine hV.run 4 [] (ws' := wX2 11 q3 τ) (pc' := 28) (ls' := [(0, .ref 0), (1, .int a1)]) (st' := [.int 0, .int 12, .int a1, .ref 0]) (ps := []) rfl trivial ?_
  obtain ⟨q4, hq4, h⟩ := am_bind h
  refine hV.cVv (as := [.int a1, .int 12, .int 0]) (js := [0, 1, 2, 3, 4, 5, 6, 7, 8, 9, 10, 11, 12, 13, 14, 15, 16, 17, 18]) (rest := []) (st := [.int 0, .int 12, .int a1, .ref 0]) (ws2 := wX2 11 q4 τ) (pc2 := 31) kX2_73 (c_X2_set l q3 τ a1 12 0 q4 hq4) rfl rfl rfl rfl rfl rfl rfl rfl rfl rfl rfl rfl ?_
  cases h
  exact hV.rv rfl rfl rfl hP

def X2_join (a1 : Int32) (a2 : Int32) (a3 : Int32) : Int32 := if a1 = (-14) then (if a3 ≤ a2 then (0) else (1)) else (if a1 = (-13) then (if a3 = 0 then (0) else (a2 / a3)) else (if a1 = (-12) then (a2 * a3) else (if a1 = (-11) then (a2 - a3) else (if a1 = (-10) then (a2 + a3) else (if a2 = a3 then (1) else (0))))))
set_option maxRecDepth 100000 in
theorem c_X2_join (l : Launch) (a1 : Int32) (a2 : Int32) (a3 : Int32) : am_Con l yX2_join cX2_join 3 (some .int) 1 [.int a1, .int a2, .int a3] [] (fun (r : Option Value) (w : am_W) => r = (some (.int (X2_join a1 a2 a3))) ∧ w = []) := by
  obtain ⟨res, h⟩ : ∃ res, (X2_join a1 a2 a3) = res := ⟨_, rfl⟩
  rw [h]
  refine am_met (own := RX2) (cd := am_cdT' tX2_join) (rf := am_rfL rfX2) (ini := false) (by decide +kernel) rfl (by decide) dX2_join rfX2_ok (Nat.le_of_ble_eq_true rfl) ?_
  intro V hV
  have hP : (fun (r : Option Value) (w : am_W) => r = (some (.int res)) ∧ w = []) (some (.int res)) [] := ⟨rfl, rfl⟩
  show V [] 0 [(0, .int a1), (1, .int a2), (2, .int a3)] []
  unfold X2_join at h
  by_cases c1 : a1 = (-14)
  · rw [if_pos c1] at h
    by_cases c2 : a3 ≤ a2
    · rw [if_pos c2] at h
      refine hV.run 6 [1, 1] (ws' := []) (pc' := 70) (ls' := [(0, .int a1), (1, .int a2), (2, .int a3)]) (st' := [.int 0]) (ps := [a1.toInt = (-14) + ((0 : Nat) : Int), 0 < 5, ¬ (-10) < a1.toInt, a3 ≤ a2]) rfl ⟨(by rw [c1]; decide), (by decide), (by rw [c1]; decide), c2, trivial⟩ ?_
      subst h
      exact hV.ri rfl rfl rfl hP
    · rw [if_neg c2] at h
      refine hV.run 7 [1, 0] (ws' := []) (pc' := 70) (ls' := [(0, .int a1), (1, .int a2), (2, .int a3)]) (st' := [.int 1]) (ps := [a1.toInt = (-14) + ((0 : Nat) : Int), 0 < 5, ¬ (-10) < a1.toInt, ¬ a3 ≤ a2]) rfl ⟨(by rw [c1]; decide), (by decide), (by rw [c1]; decide), c2, trivial⟩ ?_
      subst h
      exact hV.ri rfl rfl rfl hP
  · rw [if_neg c1] at h
    by_cases c3 : a1 = (-13)
    · rw [if_pos c3] at h
      by_cases c4 : a3 = 0
      · rw [if_pos c4] at h
        refine hV.run 6 [2, 0] (ws' := []) (pc' := 59) (ls' := [(0, .int a1), (1, .int a2), (2, .int a3)]) (st' := [.int 0]) (ps := [a1.toInt = (-14) + ((1 : Nat) : Int), 1 < 5, ¬ (-10) < a1.toInt, a3 = 0]) rfl ⟨(by rw [c3]; decide), (by decide), (by rw [c3]; decide), c4, trivial⟩ ?_
        subst h
        exact hV.ri rfl rfl rfl hP
      · rw [if_neg c4] at h
        refine hV.run 7 [2, 1] (ws' := []) (pc' := 59) (ls' := [(0, .int a1), (1, .int a2), (2, .int a3)]) (st' := [.int (a2 / a3)]) (ps := [a1.toInt = (-14) + ((1 : Nat) : Int), 1 < 5, ¬ (-10) < a1.toInt, ¬ a3 = 0, ¬ a3 = 0]) rfl ⟨(by rw [c3]; decide), (by decide), (by rw [c3]; decide), c4, c4, trivial⟩ ?_
        subst h
        exact hV.ri rfl rfl rfl hP
    · rw [if_neg c3] at h
      by_cases c5 : a1 = (-12)
      · rw [if_pos c5] at h
        refine hV.run 5 [3] (ws' := []) (pc' := 47) (ls' := [(0, .int a1), (1, .int a2), (2, .int a3)]) (st' := [.int (a2 * a3)]) (ps := [a1.toInt = (-14) + ((2 : Nat) : Int), 2 < 5, ¬ (-10) < a1.toInt]) rfl ⟨(by rw [c5]; decide), (by decide), (by rw [c5]; decide), trivial⟩ ?_
        subst h
        exact hV.ri rfl rfl rfl hP
      · rw [if_neg c5] at h
        by_cases c6 : a1 = (-11)
        · rw [if_pos c6] at h
          refine hV.run 5 [4] (ws' := []) (pc' := 43) (ls' := [(0, .int a1), (1, .int a2), (2, .int a3)]) (st' := [.int (a2 - a3)]) (ps := [a1.toInt = (-14) + ((3 : Nat) : Int), 3 < 5, ¬ (-10) < a1.toInt]) rfl ⟨(by rw [c6]; decide), (by decide), (by rw [c6]; decide), trivial⟩ ?_
          subst h
          exact hV.ri rfl rfl rfl hP
        · rw [if_neg c6] at h
          by_cases c7 : a1 = (-10)
          · rw [if_pos c7] at h
            refine hV.run 5 [5] (ws' := []) (pc' := 39) (ls' := [(0, .int a1), (1, .int a2), (2, .int a3)]) (st' := [.int (a2 + a3)]) (ps := [a1.toInt = (-14) + ((4 : Nat) : Int), 4 < 5, ¬ (-10) < a1.toInt]) rfl ⟨(by rw [c7]; decide), (by decide), (by rw [c7]; decide), trivial⟩ ?_
            subst h
            exact hV.ri rfl rfl rfl hP
          · rw [if_neg c7] at h
            by_cases c8 : a2 = a3
            · rw [if_pos c8] at h
              refine hV.run 7 [0, 0] (ws' := []) (pc' := 81) (ls' := [(0, .int a1), (1, .int a2), (2, .int a3)]) (st' := [.int 1]) (ps := [a1.toInt < (-14) ∨ (-10) < a1.toInt, a2 = a3]) rfl ⟨(by have c1_ := am_ne c1 (by decide : ((-14) : Int32).toInt = (-14)); have c3_ := am_ne c3 (by decide : ((-13) : Int32).toInt = (-13)); have c5_ := am_ne c5 (by decide : ((-12) : Int32).toInt = (-12)); have c6_ := am_ne c6 (by decide : ((-11) : Int32).toInt = (-11)); have c7_ := am_ne c7 (by decide : ((-10) : Int32).toInt = (-10)); omega), c8, trivial⟩ ?_
              subst h
              exact hV.ri rfl rfl rfl hP
            · rw [if_neg c8] at h
              refine hV.run 6 [0, 1] (ws' := []) (pc' := 81) (ls' := [(0, .int a1), (1, .int a2), (2, .int a3)]) (st' := [.int 0]) (ps := [a1.toInt < (-14) ∨ (-10) < a1.toInt, ¬ a2 = a3]) rfl ⟨(by have c1_ := am_ne c1 (by decide : ((-14) : Int32).toInt = (-14)); have c3_ := am_ne c3 (by decide : ((-13) : Int32).toInt = (-13)); have c5_ := am_ne c5 (by decide : ((-12) : Int32).toInt = (-12)); have c6_ := am_ne c6 (by decide : ((-11) : Int32).toInt = (-11)); have c7_ := am_ne c7 (by decide : ((-10) : Int32).toInt = (-10)); omega), c8, trivial⟩ ?_
              subst h
              exact hV.ri rfl rfl rfl hP

def X2_ask_J192 (n : Nat) (σ : am_M) : Option (Int32 × am_M) := some ((jat 40 (σ 7) 0), σ)
set_option maxRecDepth 100000 in
theorem p_X2_ask_J192 {l : Launch} {Post : Option Value → am_W → Prop} {V : am_VT} (hV : am_B l RX2 false 2 (am_cdT' tX2_ask) (am_rfL rfX2) (some .int) Post 19 V) (n : Nat) (τ : Nat → Int64) (res : (Int32 × am_M)) (hP : Post (some (.int res.1)) (wX2 11 res.2 τ)) (σ : am_M) (h : X2_ask_J192 n σ = some res) : V (wX2 11 σ τ) 192 [(0, .ref 0)] [] := by
  unfold X2_ask_J192 at h
  refine hV.run 3 [] (ws' := wX2 11 σ τ) (pc' := 197) (ls' := [(0, .ref 0)]) (st' := [.int 0, .ref 7]) (ps := []) rfl trivial ?_
  refine hV.cSi (as := [.ref 0, .int 0]) (js := [7]) (rest := []) (st := [.int 0, .ref 7]) (ws2 := wX2 11 σ τ) (pc2 := 200) kX2_110 (c_at l 1 40 (by decide) (σ 7) 0) rfl rfl rfl rfl rfl rfl rfl rfl rfl rfl ?_
  cases h
  exact hV.ri rfl rfl rfl hP
def X2_ask_J186 (n : Nat) (kont63 : am_M → Int32 → Int32 → Int32 → Option (Int32 × am_M)) (σ : am_M) (l1 : Int32) (l6 : Int32) (l7 : Int32) : Option (Int32 × am_M) := kont63 σ l1 l6 (l7 + 1)
set_option maxRecDepth 100000 in
theorem p_X2_ask_J186 {l : Launch} {Post : Option Value → am_W → Prop} {V : am_VT} (hV : am_B l RX2 false 2 (am_cdT' tX2_ask) (am_rfL rfX2) (some .int) Post 19 V) (n : Nat) (τ : Nat → Int64) (res : (Int32 × am_M)) (hP : Post (some (.int res.1)) (wX2 11 res.2 τ)) (kont63 : am_M → Int32 → Int32 → Int32 → Option (Int32 × am_M)) (hk63 : ∀ (σ : am_M) (l1 : Int32) (l6 : Int32) (l7 : Int32), kont63 σ l1 l6 l7 = some res → V (wX2 11 σ τ) 63 [(0, .ref 0), (1, .int l1), (6, .int l6), (7, .int l7)] []) (σ : am_M) (l1 : Int32) (l6 : Int32) (l7 : Int32) (h : X2_ask_J186 n kont63 σ l1 l6 l7 = some res) : V (wX2 11 σ τ) 186 [(0, .ref 0), (1, .int l1), (6, .int l6), (7, .int l7)] [] := by
  unfold X2_ask_J186 at h
  refine hV.run 2 [] (ws' := wX2 11 σ τ) (pc' := 63) (ls' := [(7, .int (l7 + 1)), (0, .ref 0), (1, .int l1), (6, .int l6)]) (st' := []) (ps := []) rfl trivial ?_
  refine hV.pick [1, 2, 3, 0] (ls' := [(0, .ref 0), (1, .int l1), (6, .int l6), (7, .int (l7 + 1))]) rfl ?_
  exact hk63 σ l1 l6 (l7 + 1) h
def X2_ask_J180 (n : Nat) (kont63 : am_M → Int32 → Int32 → Int32 → Option (Int32 × am_M)) (σ : am_M) (l1 : Int32) (l6 : Int32) (l7 : Int32) (s0 : Int32) (s1 : Int32) : Option (Int32 × am_M) := X2_ask_J186 n kont63 (sC σ 7 (jput 40 (σ 7) s1 s0)) l1 (l6 + 1) l7
set_option maxRecDepth 100000 in
theorem p_X2_ask_J180 {l : Launch} {Post : Option Value → am_W → Prop} {V : am_VT} (hV : am_B l RX2 false 2 (am_cdT' tX2_ask) (am_rfL rfX2) (some .int) Post 19 V) (n : Nat) (τ : Nat → Int64) (res : (Int32 × am_M)) (hP : Post (some (.int res.1)) (wX2 11 res.2 τ)) (kont63 : am_M → Int32 → Int32 → Int32 → Option (Int32 × am_M)) (hk63 : ∀ (σ : am_M) (l1 : Int32) (l6 : Int32) (l7 : Int32), kont63 σ l1 l6 l7 = some res → V (wX2 11 σ τ) 63 [(0, .ref 0), (1, .int l1), (6, .int l6), (7, .int l7)] []) (σ : am_M) (l1 : Int32) (l6 : Int32) (l7 : Int32) (s0 : Int32) (s1 : Int32) (h : X2_ask_J180 n kont63 σ l1 l6 l7 s0 s1 = some res) : V (wX2 11 σ τ) 180 [(0, .ref 0), (1, .int l1), (6, .int l6), (7, .int l7)] [.int s0, .int s1, .ref 7] := by
  unfold X2_ask_J180 at h
  refine hV.cSv (as := [.ref 0, .int s1, .int s0]) (js := [7]) (rest := []) (st := [.int s0, .int s1, .ref 7]) (ws2 := wX2 11 (sC σ 7 (jput 40 (σ 7) s1 s0)) τ) (pc2 := 183) kX2_138 (c_put l 1 40 (by decide) (σ 7) s1 s0) rfl rfl rfl rfl rfl rfl rfl rfl rfl rfl ?_
  refine hV.run 1 [] (ws' := wX2 11 (sC σ 7 (jput 40 (σ 7) s1 s0)) τ) (pc' := 186) (ls' := [(6, .int (l6 + 1)), (0, .ref 0), (1, .int l1), (7, .int l7)]) (st' := []) (ps := []) rfl trivial ?_
  refine hV.pick [1, 2, 0, 3] (ls' := [(0, .ref 0), (1, .int l1), (6, .int (l6 + 1)), (7, .int l7)]) rfl ?_
  exact p_X2_ask_J186 hV n τ res hP kont63 hk63 (sC σ 7 (jput 40 (σ 7) s1 s0)) l1 (l6 + 1) l7 h
def X2_ask_B63 (n : Nat) (kont63 : am_M → Int32 → Int32 → Int32 → Option (Int32 × am_M)) (σ : am_M) (l1 : Int32) (l6 : Int32) (l7 : Int32) : Option (Int32 × am_M) := if (σ 11 9) ≤ l7 then (X2_ask_J192 n σ) else (if (jat 900 (σ 18) l7) = (-20) then (X2_ask_J192 n σ) else (if (-7) ≤ (jat 900 (σ 18) l7) then (if (jat 900 (σ 18) l7) < 0 then (X2_ask_J180 n kont63 σ l1 l6 l7 (X2_get σ l1 (1 - (jat 900 (σ 18) l7))) l6) else (X2_ask_J180 n kont63 σ l1 l6 l7 (jat 900 (σ 18) l7) l6)) else (X2_ask_J186 n kont63 (sC σ 7 (jput 40 (σ 7) ((l6 + (-1)) - 1) (X2_join (jat 900 (σ 18) l7) (jat 40 (σ 7) ((l6 + (-1)) - 1)) (jat 40 (σ 7) (l6 + (-1)))))) l1 (l6 + (-1)) l7)))
def X2_ask_L63 (n : Nat) : Nat → am_M → Int32 → Int32 → Int32 → Option (Int32 × am_M)
 | 0 => fun _ _ _ _ => none
 | k + 1 => fun σ l1 l6 l7 => X2_ask_B63 n (X2_ask_L63 n k) σ l1 l6 l7
set_option maxRecDepth 100000 in
theorem p_X2_ask_B63 {l : Launch} {Post : Option Value → am_W → Prop} {V : am_VT} (hV : am_B l RX2 false 2 (am_cdT' tX2_ask) (am_rfL rfX2) (some .int) Post 19 V) (n : Nat) (τ : Nat → Int64) (res : (Int32 × am_M)) (hP : Post (some (.int res.1)) (wX2 11 res.2 τ)) (kont63 : am_M → Int32 → Int32 → Int32 → Option (Int32 × am_M)) (hk63 : ∀ (σ : am_M) (l1 : Int32) (l6 : Int32) (l7 : Int32), kont63 σ l1 l6 l7 = some res → V (wX2 11 σ τ) 63 [(0, .ref 0), (1, .int l1), (6, .int l6), (7, .int l7)] []) (σ : am_M) (l1 : Int32) (l6 : Int32) (l7 : Int32) (h : X2_ask_B63 n kont63 σ l1 l6 l7 = some res) : V (wX2 11 σ τ) 63 [(0, .ref 0), (1, .int l1), (6, .int l6), (7, .int l7)] [] := by
  unfold X2_ask_B63 at h
  by_cases c1 : (σ 11 9) ≤ l7
  · rw [if_pos c1] at h
    refine hV.run 5 [1] (ws' := wX2 11 σ τ) (pc' := 192) (ls' := [(0, .ref 0), (1, .int l1), (6, .int l6), (7, .int l7)]) (st' := []) (ps := [(σ 11 9) ≤ l7]) rfl ⟨c1, trivial⟩ ?_
    refine hV.pick [0] (ls' := [(0, .ref 0)]) rfl ?_
    exact p_X2_ask_J192 hV n τ res hP σ h
  · rw [if_neg c1] at h
    refine hV.run 9 [0] (ws' := wX2 11 σ τ) (pc' := 84) (ls' := [(0, .ref 0), (1, .int l1), (6, .int l6), (7, .int l7)]) (st' := [.int l7, .ref 18]) (ps := [¬ (σ 11 9) ≤ l7]) rfl ⟨c1, trivial⟩ ?_
    refine hV.cSi (as := [.ref 0, .int l7]) (js := [18]) (rest := []) (st := [.int l7, .ref 18]) (ws2 := wX2 11 σ τ) (pc2 := 87) kX2_110 (c_at l 1 900 (by decide) (σ 18) l7) rfl rfl rfl rfl rfl rfl rfl rfl rfl rfl ?_
    by_cases c2 : (jat 900 (σ 18) l7) = (-20)
    · rw [if_pos c2] at h
      refine hV.run 2 [1] (ws' := wX2 11 σ τ) (pc' := 192) (ls' := [(0, .ref 0), (1, .int l1), (6, .int l6), (7, .int l7)]) (st' := []) (ps := [(jat 900 (σ 18) l7) = (-20)]) rfl ⟨c2, trivial⟩ ?_
      refine hV.pick [0] (ls' := [(0, .ref 0)]) rfl ?_
      exact p_X2_ask_J192 hV n τ res hP σ h
    · rw [if_neg c2] at h
      refine hV.run 6 [0] (ws' := wX2 11 σ τ) (pc' := 101) (ls' := [(0, .ref 0), (1, .int l1), (6, .int l6), (7, .int l7)]) (st' := [.int l7, .ref 18]) (ps := [¬ (jat 900 (σ 18) l7) = (-20)]) rfl ⟨c2, trivial⟩ ?_
      refine hV.cSi (as := [.ref 0, .int l7]) (js := [18]) (rest := []) (st := [.int l7, .ref 18]) (ws2 := wX2 11 σ τ) (pc2 := 104) kX2_110 (c_at l 1 900 (by decide) (σ 18) l7) rfl rfl rfl rfl rfl rfl rfl rfl rfl rfl ?_
      by_cases c3 : (-7) ≤ (jat 900 (σ 18) l7)
      · rw [if_pos c3] at h
        by_cases c4 : (jat 900 (σ 18) l7) < 0
        · rw [if_pos c4] at h
          refine hV.run 14 [1, 1] (ws' := wX2 11 σ τ) (pc' := 177) (ls' := [(8, .int (jat 900 (σ 18) l7)), (0, .ref 0), (1, .int l1), (6, .int l6), (7, .int l7)]) (st' := [.int (1 - (jat 900 (σ 18) l7)), .int l1, .ref 0, .int l6, .ref 7]) (ps := [(-7) ≤ (jat 900 (σ 18) l7), (jat 900 (σ 18) l7) < 0]) rfl ⟨c3, c4, trivial⟩ ?_
          refine hV.cVi (as := [.int l1, .int (1 - (jat 900 (σ 18) l7))]) (js := [0, 1, 2, 3, 4, 5, 6, 7, 8, 9, 10, 11, 12, 13, 14, 15, 16, 17, 18]) (rest := [.int l6, .ref 7]) (st := [.int (1 - (jat 900 (σ 18) l7)), .int l1, .ref 0, .int l6, .ref 7]) (ws2 := wX2 11 σ τ) (pc2 := 180) kX2_81 (c_X2_get l σ τ l1 (1 - (jat 900 (σ 18) l7))) rfl rfl rfl rfl rfl rfl rfl rfl rfl rfl rfl rfl ?_
          refine hV.pick [1, 2, 3, 4] (ls' := [(0, .ref 0), (1, .int l1), (6, .int l6), (7, .int l7)]) rfl ?_
          exact p_X2_ask_J180 hV n τ res hP kont63 hk63 σ l1 l6 l7 (X2_get σ l1 (1 - (jat 900 (σ 18) l7))) l6 h
        · rw [if_neg c4] at h
          refine hV.run 11 [1, 0] (ws' := wX2 11 σ τ) (pc' := 180) (ls' := [(8, .int (jat 900 (σ 18) l7)), (0, .ref 0), (1, .int l1), (6, .int l6), (7, .int l7)]) (st' := [.int (jat 900 (σ 18) l7), .int l6, .ref 7]) (ps := [(-7) ≤ (jat 900 (σ 18) l7), ¬ (jat 900 (σ 18) l7) < 0]) rfl ⟨c3, c4, trivial⟩ ?_
          refine hV.pick [1, 2, 3, 4] (ls' := [(0, .ref 0), (1, .int l1), (6, .int l6), (7, .int l7)]) rfl ?_
          exact p_X2_ask_J180 hV n τ res hP kont63 hk63 σ l1 l6 l7 (jat 900 (σ 18) l7) l6 h
      · rw [if_neg c3] at h
        refine hV.run 16 [0] (ws' := wX2 11 σ τ) (pc' := 134) (ls' := [(6, .int (l6 + (-1))), (8, .int (jat 900 (σ 18) l7)), (0, .ref 0), (1, .int l1), (7, .int l7)]) (st' := [.int ((l6 + (-1)) - 1), .ref 7, .int (jat 900 (σ 18) l7), .int ((l6 + (-1)) - 1), .ref 7]) (ps := [¬ (-7) ≤ (jat 900 (σ 18) l7)]) rfl ⟨c3, trivial⟩ ?_
        refine hV.cSi (as := [.ref 0, .int ((l6 + (-1)) - 1)]) (js := [7]) (rest := [.int (jat 900 (σ 18) l7), .int ((l6 + (-1)) - 1), .ref 7]) (st := [.int ((l6 + (-1)) - 1), .ref 7, .int (jat 900 (σ 18) l7), .int ((l6 + (-1)) - 1), .ref 7]) (ws2 := wX2 11 σ τ) (pc2 := 137) kX2_110 (c_at l 1 40 (by decide) (σ 7) ((l6 + (-1)) - 1)) rfl rfl rfl rfl rfl rfl rfl rfl rfl rfl ?_
        refine hV.run 3 [] (ws' := wX2 11 σ τ) (pc' := 143) (ls' := [(6, .int (l6 + (-1))), (8, .int (jat 900 (σ 18) l7)), (0, .ref 0), (1, .int l1), (7, .int l7)]) (st' := [.int (l6 + (-1)), .ref 7, .int (jat 40 (σ 7) ((l6 + (-1)) - 1)), .int (jat 900 (σ 18) l7), .int ((l6 + (-1)) - 1), .ref 7]) (ps := []) rfl trivial ?_
        refine hV.cSi (as := [.ref 0, .int (l6 + (-1))]) (js := [7]) (rest := [.int (jat 40 (σ 7) ((l6 + (-1)) - 1)), .int (jat 900 (σ 18) l7), .int ((l6 + (-1)) - 1), .ref 7]) (st := [.int (l6 + (-1)), .ref 7, .int (jat 40 (σ 7) ((l6 + (-1)) - 1)), .int (jat 900 (σ 18) l7), .int ((l6 + (-1)) - 1), .ref 7]) (ws2 := wX2 11 σ τ) (pc2 := 146) kX2_110 (c_at l 1 40 (by decide) (σ 7) (l6 + (-1))) rfl rfl rfl rfl rfl rfl rfl rfl rfl rfl ?_
        refine hV.cSi (as := [.int (jat 900 (σ 18) l7), .int (jat 40 (σ 7) ((l6 + (-1)) - 1)), .int (jat 40 (σ 7) (l6 + (-1)))]) (js := []) (rest := [.int ((l6 + (-1)) - 1), .ref 7]) (st := [.int (jat 40 (σ 7) (l6 + (-1))), .int (jat 40 (σ 7) ((l6 + (-1)) - 1)), .int (jat 900 (σ 18) l7), .int ((l6 + (-1)) - 1), .ref 7]) (ws2 := wX2 11 σ τ) (pc2 := 149) kX2_135 (c_X2_join l (jat 900 (σ 18) l7) (jat 40 (σ 7) ((l6 + (-1)) - 1)) (jat 40 (σ 7) (l6 + (-1)))) rfl rfl rfl rfl rfl rfl rfl rfl rfl rfl ?_
        refine hV.cSv (as := [.ref 0, .int ((l6 + (-1)) - 1), .int (X2_join (jat 900 (σ 18) l7) (jat 40 (σ 7) ((l6 + (-1)) - 1)) (jat 40 (σ 7) (l6 + (-1))))]) (js := [7]) (rest := []) (st := [.int (X2_join (jat 900 (σ 18) l7) (jat 40 (σ 7) ((l6 + (-1)) - 1)) (jat 40 (σ 7) (l6 + (-1)))), .int ((l6 + (-1)) - 1), .ref 7]) (ws2 := wX2 11 (sC σ 7 (jput 40 (σ 7) ((l6 + (-1)) - 1) (X2_join (jat 900 (σ 18) l7) (jat 40 (σ 7) ((l6 + (-1)) - 1)) (jat 40 (σ 7) (l6 + (-1)))))) τ) (pc2 := 152) kX2_138 (c_put l 1 40 (by decide) (σ 7) ((l6 + (-1)) - 1) (X2_join (jat 900 (σ 18) l7) (jat 40 (σ 7) ((l6 + (-1)) - 1)) (jat 40 (σ 7) (l6 + (-1))))) rfl rfl rfl rfl rfl rfl rfl rfl rfl rfl ?_
        refine hV.run 1 [] (ws' := wX2 11 (sC σ 7 (jput 40 (σ 7) ((l6 + (-1)) - 1) (X2_join (jat 900 (σ 18) l7) (jat 40 (σ 7) ((l6 + (-1)) - 1)) (jat 40 (σ 7) (l6 + (-1)))))) τ) (pc' := 186) (ls' := [(6, .int (l6 + (-1))), (8, .int (jat 900 (σ 18) l7)), (0, .ref 0), (1, .int l1), (7, .int l7)]) (st' := []) (ps := []) rfl trivial ?_
        refine hV.pick [2, 3, 0, 4] (ls' := [(0, .ref 0), (1, .int l1), (6, .int (l6 + (-1))), (7, .int l7)]) rfl ?_
        exact p_X2_ask_J186 hV n τ res hP kont63 hk63 (sC σ 7 (jput 40 (σ 7) ((l6 + (-1)) - 1) (X2_join (jat 900 (σ 18) l7) (jat 40 (σ 7) ((l6 + (-1)) - 1)) (jat 40 (σ 7) (l6 + (-1)))))) l1 (l6 + (-1)) l7 h
theorem p_X2_ask_L63 {l : Launch} {Post : Option Value → am_W → Prop} {V : am_VT} (hV : am_B l RX2 false 2 (am_cdT' tX2_ask) (am_rfL rfX2) (some .int) Post 19 V) (n : Nat) (τ : Nat → Int64) (res : (Int32 × am_M)) (hP : Post (some (.int res.1)) (wX2 11 res.2 τ)) : ∀ (k : Nat) (σ : am_M) (l1 : Int32) (l6 : Int32) (l7 : Int32) (h : X2_ask_L63 n k σ l1 l6 l7 = some res), V (wX2 11 σ τ) 63 [(0, .ref 0), (1, .int l1), (6, .int l6), (7, .int l7)] [] := by
  intro k
  induction k with
  | zero => intro σ l1 l6 l7 h; cases h
  | succ k ih => intro σ l1 l6 l7 h; exact p_X2_ask_B63 hV n τ res hP _ ih σ l1 l6 l7 h
def X2_ask_J46 (n : Nat) (σ : am_M) (l1 : Int32) (s0 : Int32) : Option (Int32 × am_M) := if s0 = (-1) then (some (0, σ)) else (X2_ask_L63 n n σ l1 0 s0)
set_option maxRecDepth 100000 in
theorem p_X2_ask_J46 {l : Launch} {Post : Option Value → am_W → Prop} {V : am_VT} (hV : am_B l RX2 false 2 (am_cdT' tX2_ask) (am_rfL rfX2) (some .int) Post 19 V) (n : Nat) (τ : Nat → Int64) (res : (Int32 × am_M)) (hP : Post (some (.int res.1)) (wX2 11 res.2 τ)) (σ : am_M) (l1 : Int32) (s0 : Int32) (h : X2_ask_J46 n σ l1 s0 = some res) : V (wX2 11 σ τ) 46 [(0, .ref 0), (1, .int l1)] [.int s0] := by
  unfold X2_ask_J46 at h
  by_cases c1 : s0 = (-1)
  · rw [if_pos c1] at h
    refine hV.run 5 [0] (ws' := wX2 11 σ τ) (pc' := 55) (ls' := [(5, .int s0), (0, .ref 0), (1, .int l1)]) (st' := [.int 0]) (ps := [s0 = (-1)]) rfl ⟨c1, trivial⟩ ?_
    cases h
    exact hV.ri rfl rfl rfl hP
  · rw [if_neg c1] at h
    refine hV.run 8 [1] (ws' := wX2 11 σ τ) (pc' := 63) (ls' := [(7, .int s0), (6, .int 0), (5, .int s0), (0, .ref 0), (1, .int l1)]) (st' := []) (ps := [¬ s0 = (-1)]) rfl ⟨c1, trivial⟩ ?_
    refine hV.pick [3, 4, 1, 0] (ls' := [(0, .ref 0), (1, .int l1), (6, .int 0), (7, .int s0)]) rfl ?_
    exact p_X2_ask_L63 hV n τ res hP n σ l1 0 s0 h
def X2_ask_J20 (n : Nat) (σ : am_M) (l1 : Int32) (l2 : Int32) (l3 : Int32) (s0 : Int32) : Option (Int32 × am_M) := if s0 = 0 then (X2_ask_J46 n σ l1 (-1)) else (X2_ask_J46 n σ l1 (jat 120 (σ 17) ((l2 * 3) + l3)))
set_option maxRecDepth 100000 in
theorem p_X2_ask_J20 {l : Launch} {Post : Option Value → am_W → Prop} {V : am_VT} (hV : am_B l RX2 false 2 (am_cdT' tX2_ask) (am_rfL rfX2) (some .int) Post 19 V) (n : Nat) (τ : Nat → Int64) (res : (Int32 × am_M)) (hP : Post (some (.int res.1)) (wX2 11 res.2 τ)) (σ : am_M) (l1 : Int32) (l2 : Int32) (l3 : Int32) (s0 : Int32) (h : X2_ask_J20 n σ l1 l2 l3 s0 = some res) : V (wX2 11 σ τ) 20 [(0, .ref 0), (1, .int l1), (2, .int l2), (3, .int l3)] [.int s0] := by
  unfold X2_ask_J20 at h
  by_cases c1 : s0 = 0
  · rw [if_pos c1] at h
    refine hV.run 4 [1] (ws' := wX2 11 σ τ) (pc' := 46) (ls' := [(4, .int s0), (0, .ref 0), (1, .int l1), (2, .int l2), (3, .int l3)]) (st' := [.int (-1)]) (ps := [s0 = 0]) rfl ⟨c1, trivial⟩ ?_
    refine hV.pick [1, 2] (ls' := [(0, .ref 0), (1, .int l1)]) rfl ?_
    exact p_X2_ask_J46 hV n τ res hP σ l1 (-1) h
  · rw [if_neg c1] at h
    refine hV.run 11 [0] (ws' := wX2 11 σ τ) (pc' := 39) (ls' := [(4, .int s0), (0, .ref 0), (1, .int l1), (2, .int l2), (3, .int l3)]) (st' := [.int ((l2 * 3) + l3), .ref 17]) (ps := [¬ s0 = 0]) rfl ⟨c1, trivial⟩ ?_
    refine hV.cSi (as := [.ref 0, .int ((l2 * 3) + l3)]) (js := [17]) (rest := []) (st := [.int ((l2 * 3) + l3), .ref 17]) (ws2 := wX2 11 σ τ) (pc2 := 42) kX2_110 (c_at l 1 120 (by decide) (σ 17) ((l2 * 3) + l3)) rfl rfl rfl rfl rfl rfl rfl rfl rfl rfl ?_
    refine hV.run 1 [] (ws' := wX2 11 σ τ) (pc' := 46) (ls' := [(4, .int s0), (0, .ref 0), (1, .int l1), (2, .int l2), (3, .int l3)]) (st' := [.int (jat 120 (σ 17) ((l2 * 3) + l3))]) (ps := []) rfl trivial ?_
    refine hV.pick [1, 2] (ls' := [(0, .ref 0), (1, .int l1)]) rfl ?_
    exact p_X2_ask_J46 hV n τ res hP σ l1 (jat 120 (σ 17) ((l2 * 3) + l3)) h
def X2_ask_J19 (n : Nat) (σ : am_M) (l1 : Int32) (l2 : Int32) (l3 : Int32) : Option (Int32 × am_M) := X2_ask_J20 n σ l1 l2 l3 0
set_option maxRecDepth 100000 in
theorem p_X2_ask_J19 {l : Launch} {Post : Option Value → am_W → Prop} {V : am_VT} (hV : am_B l RX2 false 2 (am_cdT' tX2_ask) (am_rfL rfX2) (some .int) Post 19 V) (n : Nat) (τ : Nat → Int64) (res : (Int32 × am_M)) (hP : Post (some (.int res.1)) (wX2 11 res.2 τ)) (σ : am_M) (l1 : Int32) (l2 : Int32) (l3 : Int32) (h : X2_ask_J19 n σ l1 l2 l3 = some res) : V (wX2 11 σ τ) 19 [(0, .ref 0), (1, .int l1), (2, .int l2), (3, .int l3)] [] := by
  unfold X2_ask_J19 at h
  refine hV.run 1 [] (ws' := wX2 11 σ τ) (pc' := 20) (ls' := [(0, .ref 0), (1, .int l1), (2, .int l2), (3, .int l3)]) (st' := [.int 0]) (ps := []) rfl trivial ?_
  exact p_X2_ask_J20 hV n τ res hP σ l1 l2 l3 0 h
def X2_ask (n : Nat) (σ : am_M) (a1 : Int32) (a2 : Int32) (a3 : Int32) : Option (Int32 × am_M) := if a2 < 0 then (X2_ask_J19 n σ a1 a2 a3) else (if (σ 11 7) ≤ a2 then (X2_ask_J19 n σ a1 a2 a3) else (X2_ask_J20 n σ a1 a2 a3 1))
set_option maxRecDepth 100000 in
theorem c_X2_ask (l : Launch) (n : Nat) (σ : am_M) (τ : Nat → Int64) (a1 : Int32) (a2 : Int32) (a3 : Int32) (res : (Int32 × am_M)) (h : X2_ask n σ a1 a2 a3 = some res) : am_Con l yX2_ask cX2_ask 9 (some .int) 2 [.ref 0, .int a1, .int a2, .int a3] (wX2 11 σ τ) (fun (r : Option Value) (w : am_W) => r = (some (.int res.1)) ∧ w = (wX2 11 res.2 τ)) := by
  refine am_met (own := RX2) (cd := am_cdT' tX2_ask) (rf := am_rfL rfX2) (ini := false) (by decide +kernel) rfl (by decide) dX2_ask rfX2_ok (Nat.le_of_ble_eq_true rfl) ?_
  intro V hV
  have hP : (fun (r : Option Value) (w : am_W) => r = (some (.int res.1)) ∧ w = (wX2 11 res.2 τ)) (some (.int res.1)) (wX2 11 res.2 τ) := ⟨rfl, rfl⟩
  show V (wX2 11 σ τ) 0 [(0, .ref 0), (1, .int a1), (2, .int a2), (3, .int a3)] []
  unfold X2_ask at h
  by_cases c1 : a2 < 0
  · rw [if_pos c1] at h
    refine hV.run 2 [1] (ws' := wX2 11 σ τ) (pc' := 19) (ls' := [(0, .ref 0), (1, .int a1), (2, .int a2), (3, .int a3)]) (st' := []) (ps := [a2 < 0]) rfl ⟨c1, trivial⟩ ?_
    exact p_X2_ask_J19 hV n τ res hP σ a1 a2 a3 h
  · rw [if_neg c1] at h
    by_cases c2 : (σ 11 7) ≤ a2
    · rw [if_pos c2] at h
      refine hV.run 7 [0, 1] (ws' := wX2 11 σ τ) (pc' := 19) (ls' := [(0, .ref 0), (1, .int a1), (2, .int a2), (3, .int a3)]) (st' := []) (ps := [¬ a2 < 0, (σ 11 7) ≤ a2]) rfl ⟨c1, c2, trivial⟩ ?_
      exact p_X2_ask_J19 hV n τ res hP σ a1 a2 a3 h
    · rw [if_neg c2] at h
      refine hV.run 9 [0, 0] (ws' := wX2 11 σ τ) (pc' := 20) (ls' := [(0, .ref 0), (1, .int a1), (2, .int a2), (3, .int a3)]) (st' := [.int 1]) (ps := [¬ a2 < 0, ¬ (σ 11 7) ≤ a2]) rfl ⟨c1, c2, trivial⟩ ?_
      exact p_X2_ask_J20 hV n τ res hP σ a1 a2 a3 1 h

def X2_isQuiet (σ : am_M) (τ : Nat → Int64) (a1 : Int32) : Bool := if (X3_kindOf (am_sub σ 11) a1) = (-1) then (false) else (if 8 ≤ (X3_kindOf (am_sub σ 11) a1) then (true) else (if (X2_isLeftOut σ τ a1) = true then (true) else (false)))
set_option maxRecDepth 100000 in
theorem c_X2_isQuiet (l : Launch) (σ : am_M) (τ : Nat → Int64) (a1 : Int32) : am_Con l yX2_isQuiet cX2_isQuiet 3 (some .boolean) 3 [.ref 0, .int a1] (wX2 11 σ τ) (fun (r : Option Value) (w : am_W) => r = (some (.int (b2i (X2_isQuiet σ τ a1)))) ∧ w = (wX2 11 σ τ)) := by
  obtain ⟨res, h⟩ : ∃ res, (X2_isQuiet σ τ a1) = res := ⟨_, rfl⟩
  rw [h]
  refine am_met (own := RX2) (cd := am_cdT' tX2_isQuiet) (rf := am_rfL rfX2) (ini := false) (by decide +kernel) rfl (by decide) dX2_isQuiet rfX2_ok (Nat.le_of_ble_eq_true rfl) ?_
  intro V hV
  have hP : (fun (r : Option Value) (w : am_W) => r = (some (.int (b2i res))) ∧ w = (wX2 11 σ τ)) (some (.int (b2i res))) (wX2 11 σ τ) := ⟨rfl, rfl⟩
  show V (wX2 11 σ τ) 0 [(0, .ref 0), (1, .int a1)] []
  unfold X2_isQuiet at h
  refine hV.run 3 [] (ws' := wX2 11 σ τ) (pc' := 5) (ls' := [(0, .ref 0), (1, .int a1)]) (st' := [.int a1, .ref 11]) (ps := []) rfl trivial ?_
  refine hV.cVi (as := [.int a1]) (js := [11, 12, 13, 14, 15, 16, 17, 18]) (rest := []) (st := [.int a1, .ref 11]) (ws2 := wX2 11 σ τ) (pc2 := 8) kX2_89 (c_X3_kindOf l (am_sub σ 11) a1) rfl rfl rfl rfl rfl rfl rfl rfl rfl rfl rfl rfl ?_
  by_cases c1 : (X3_kindOf (am_sub σ 11) a1) = (-1)
  · rw [if_pos c1] at h
    refine hV.run 5 [1] (ws' := wX2 11 σ τ) (pc' := 33) (ls' := [(2, .int (X3_kindOf (am_sub σ 11) a1)), (0, .ref 0), (1, .int a1)]) (st' := [.int 0]) (ps := [(X3_kindOf (am_sub σ 11) a1) = (-1)]) rfl ⟨c1, trivial⟩ ?_
    subst h
    exact hV.rz rfl rfl rfl (Or.inl rfl) hP
  · rw [if_neg c1] at h
    by_cases c2 : 8 ≤ (X3_kindOf (am_sub σ 11) a1)
    · rw [if_pos c2] at h
      refine hV.run 9 [0, 1] (ws' := wX2 11 σ τ) (pc' := 33) (ls' := [(2, .int (X3_kindOf (am_sub σ 11) a1)), (0, .ref 0), (1, .int a1)]) (st' := [.int 1]) (ps := [¬ (X3_kindOf (am_sub σ 11) a1) = (-1), 8 ≤ (X3_kindOf (am_sub σ 11) a1)]) rfl ⟨c1, c2, trivial⟩ ?_
      subst h
      exact hV.rz rfl rfl rfl (Or.inr rfl) hP
    · rw [if_neg c2] at h
      refine hV.run 9 [0, 0] (ws' := wX2 11 σ τ) (pc' := 22) (ls' := [(2, .int (X3_kindOf (am_sub σ 11) a1)), (0, .ref 0), (1, .int a1)]) (st' := [.int a1, .ref 0]) (ps := [¬ (X3_kindOf (am_sub σ 11) a1) = (-1), ¬ 8 ≤ (X3_kindOf (am_sub σ 11) a1)]) rfl ⟨c1, c2, trivial⟩ ?_
      refine hV.cVi (as := [.int a1]) (js := [0, 1, 2, 3, 4, 5, 6, 7, 8, 9, 10, 11, 12, 13, 14, 15, 16, 17, 18]) (rest := []) (st := [.int a1, .ref 0]) (ws2 := wX2 11 σ τ) (pc2 := 25) kX2_114 (c_X2_isLeftOut l σ τ a1) rfl rfl rfl rfl rfl rfl rfl rfl rfl rfl rfl rfl ?_
      by_cases c3 : (X2_isLeftOut σ τ a1) = true
      · rw [if_pos c3] at h
        refine hV.run 3 [0] (ws' := wX2 11 σ τ) (pc' := 33) (ls' := [(2, .int (X3_kindOf (am_sub σ 11) a1)), (0, .ref 0), (1, .int a1)]) (st' := [.int 1]) (ps := [¬ (b2i (X2_isLeftOut σ τ a1)) = 0]) rfl ⟨(b2i_t c3), trivial⟩ ?_
        subst h
        exact hV.rz rfl rfl rfl (Or.inr rfl) hP
      · rw [if_neg c3] at h
        refine hV.run 2 [1] (ws' := wX2 11 σ τ) (pc' := 33) (ls' := [(2, .int (X3_kindOf (am_sub σ 11) a1)), (0, .ref 0), (1, .int a1)]) (st' := [.int 0]) (ps := [(b2i (X2_isLeftOut σ τ a1)) = 0]) rfl ⟨(b2i_f c3), trivial⟩ ?_
        subst h
        exact hV.rz rfl rfl rfl (Or.inl rfl) hP

def X2_pass (n : Nat) (τ : Nat → Int64) (σ : am_M) (a1 : Int32) (a2 : Int32) : Option (Int32 × am_M) := if (X2_isLeftOut σ τ a2) = true then (some ((jat 40 (σ 13) a2), σ)) else (X2_ask n σ a1 a2 2).bind (fun q2 => if (X3_kindOf (am_sub q2.2 11) a2) = 8 then (X2_set q2.2 a1 (2 + (jat 40 (q2.2 15) a2)) q2.1).bind (fun q4 => some ((jat 40 (σ 13) a2), q4)) else (if (X3_kindOf (am_sub q2.2 11) a2) = 9 then (X2_set q2.2 a1 9 (((X2_get q2.2 a1 9) * 31) + q2.1)).bind (fun q6 => some ((jat 40 (σ 13) a2), q6)) else (if q2.1 = 0 then (some ((jat 40 (q2.2 14) a2), q2.2)) else (some ((jat 40 (σ 13) a2), q2.2)))))
set_option maxRecDepth 100000 in
theorem c_X2_pass (l : Launch) (n : Nat) (τ : Nat → Int64) (σ : am_M) (a1 : Int32) (a2 : Int32) (res : (Int32 × am_M)) (h : X2_pass n τ σ a1 a2 = some res) : am_Con l yX2_pass cX2_pass 5 (some .int) 3 [.ref 0, .int a1, .int a2] (wX2 11 σ τ) (fun (r : Option Value) (w : am_W) => r = (some (.int res.1)) ∧ w = (wX2 11 res.2 τ)) := by
  refine am_met (own := RX2) (cd := am_cdT' tX2_pass) (rf := am_rfL rfX2) (ini := false) (by decide +kernel) rfl (by decide) dX2_pass rfX2_ok (Nat.le_of_ble_eq_true rfl) ?_
  intro V hV
  have hP : (fun (r : Option Value) (w : am_W) => r = (some (.int res.1)) ∧ w = (wX2 11 res.2 τ)) (some (.int res.1)) (wX2 11 res.2 τ) := ⟨rfl, rfl⟩
  show V (wX2 11 σ τ) 0 [(0, .ref 0), (1, .int a1), (2, .int a2)] []
  unfold X2_pass at h
  refine hV.run 4 [] (ws' := wX2 11 σ τ) (pc' := 8) (ls' := [(0, .ref 0), (1, .int a1), (2, .int a2)]) (st' := [.int a2, .ref 13]) (ps := []) rfl trivial ?_
  refine hV.cSi (as := [.ref 0, .int a2]) (js := [13]) (rest := []) (st := [.int a2, .ref 13]) (ws2 := wX2 11 σ τ) (pc2 := 11) kX2_110 (c_at l 1 40 (by decide) (σ 13) a2) rfl rfl rfl rfl rfl rfl rfl rfl rfl rfl ?_
  refine hV.run 3 [] (ws' := wX2 11 σ τ) (pc' := 14) (ls' := [(3, .int (jat 40 (σ 13) a2)), (0, .ref 0), (1, .int a1), (2, .int a2)]) (st' := [.int a2, .ref 0]) (ps := []) rfl trivial ?_
  refine hV.cVi (as := [.int a2]) (js := [0, 1, 2, 3, 4, 5, 6, 7, 8, 9, 10, 11, 12, 13, 14, 15, 16, 17, 18]) (rest := []) (st := [.int a2, .ref 0]) (ws2 := wX2 11 σ τ) (pc2 := 17) kX2_114 (c_X2_isLeftOut l σ τ a2) rfl rfl rfl rfl rfl rfl rfl rfl rfl rfl rfl rfl ?_
  by_cases c1 : (X2_isLeftOut σ τ a2) = true
  · rw [if_pos c1] at h
    refine hV.run 2 [0] (ws' := wX2 11 σ τ) (pc' := 21) (ls' := [(3, .int (jat 40 (σ 13) a2)), (0, .ref 0), (1, .int a1), (2, .int a2)]) (st' := [.int (jat 40 (σ 13) a2)]) (ps := [¬ (b2i (X2_isLeftOut σ τ a2)) = 0]) rfl ⟨(b2i_t c1), trivial⟩ ?_
    cases h
    exact hV.ri rfl rfl rfl hP
  · rw [if_neg c1] at h
    refine hV.run 5 [1] (ws' := wX2 11 σ τ) (pc' := 26) (ls' := [(3, .int (jat 40 (σ 13) a2)), (0, .ref 0), (1, .int a1), (2, .int a2)]) (st' := [.int 2, .int a2, .int a1, .ref 0]) (ps := [(b2i (X2_isLeftOut σ τ a2)) = 0]) rfl ⟨(b2i_f c1), trivial⟩ ?_
    obtain ⟨q2, hq2, h⟩ := am_bind h
    refine hV.cVi (as := [.int a1, .int a2, .int 2]) (js := [0, 1, 2, 3, 4, 5, 6, 7, 8, 9, 10, 11, 12, 13, 14, 15, 16, 17, 18]) (rest := []) (st := [.int 2, .int a2, .int a1, .ref 0]) (ws2 := wX2 11 q2.2 τ) (pc2 := 29) kX2_99 (c_X2_ask l n σ τ a1 a2 2 q2 hq2) rfl rfl rfl rfl rfl rfl rfl rfl rfl rfl rfl rfl ?_
    refine hV.run 4 [] (ws' := wX2 11 q2.2 τ) (pc' := 36) (ls' := [(4, .int q2.1), (3, .int (jat 40 (σ 13) a2)), (0, .ref 0), (1, .int a1), (2, .int a2)]) (st' := [.int a2, .ref 11]) (ps := []) rfl trivial ?_
    refine hV.cVi (as := [.int a2]) (js := [11, 12, 13, 14, 15, 16, 17, 18]) (rest := []) (st := [.int a2, .ref 11]) (ws2 := wX2 11 q2.2 τ) (pc2 := 39) kX2_89 (c_X3_kindOf l (am_sub q2.2 11) a2) rfl rfl rfl rfl rfl rfl rfl rfl rfl rfl rfl rfl ?_
    by_cases c3 : (X3_kindOf (am_sub q2.2 11) a2) = 8
    · rw [if_pos c3] at h
      refine hV.run 8 [1] (ws' := wX2 11 q2.2 τ) (pc' := 75) (ls' := [(4, .int q2.1), (3, .int (jat 40 (σ 13) a2)), (0, .ref 0), (1, .int a1), (2, .int a2)]) (st' := [.int a2, .ref 15, .int 2, .int a1, .ref 0]) (ps := [(39 : Int) + Op.lookupswitch.offset [(8, 25), (9, 47)] (69) (X3_kindOf (am_sub q2.2 11) a2).toInt = ((64 : Nat) : Int)]) rfl ⟨(by rw [c3]; decide), trivial⟩ ?_
      refine hV.cSi (as := [.ref 0, .int a2]) (js := [15]) (rest := [.int 2, .int a1, .ref 0]) (st := [.int a2, .ref 15, .int 2, .int a1, .ref 0]) (ws2 := wX2 11 q2.2 τ) (pc2 := 78) kX2_110 (c_at l 1 40 (by decide) (q2.2 15) a2) rfl rfl rfl rfl rfl rfl rfl rfl rfl rfl ?_
      refine hV.run 2 [] (ws' := wX2 11 q2.2 τ) (pc' := 81) (ls' := [(4, .int q2.1), (3, .int (jat 40 (σ 13) a2)), (0, .ref 0), (1, .int a1), (2, .int a2)]) (st' := [.int q2.1, .int (2 + (jat 40 (q2.2 15) a2)), .int a1, .ref 0]) (ps := []) rfl trivial ?_
      obtain ⟨q4, hq4, h⟩ := am_bind h
      refine hV.cVv (as := [.int a1, .int (2 + (jat 40 (q2.2 15) a2)), .int q2.1]) (js := [0, 1, 2, 3, 4, 5, 6, 7, 8, 9, 10, 11, 12, 13, 14, 15, 16, 17, 18]) (rest := []) (st := [.int q2.1, .int (2 + (jat 40 (q2.2 15) a2)), .int a1, .ref 0]) (ws2 := wX2 11 q4 τ) (pc2 := 84) kX2_73 (c_X2_set l q2.2 τ a1 (2 + (jat 40 (q2.2 15) a2)) q2.1 q4 hq4) rfl rfl rfl rfl rfl rfl rfl rfl rfl rfl rfl rfl ?_
      refine hV.run 1 [] (ws' := wX2 11 q4 τ) (pc' := 85) (ls' := [(4, .int q2.1), (3, .int (jat 40 (σ 13) a2)), (0, .ref 0), (1, .int a1), (2, .int a2)]) (st' := [.int (jat 40 (σ 13) a2)]) (ps := []) rfl trivial ?_
      cases h
      exact hV.ri rfl rfl rfl hP
    · rw [if_neg c3] at h
      by_cases c5 : (X3_kindOf (am_sub q2.2 11) a2) = 9
      · rw [if_pos c5] at h
        refine hV.run 7 [2] (ws' := wX2 11 q2.2 τ) (pc' := 94) (ls' := [(4, .int q2.1), (3, .int (jat 40 (σ 13) a2)), (0, .ref 0), (1, .int a1), (2, .int a2)]) (st' := [.int 9, .int a1, .ref 0, .int 9, .int a1, .ref 0]) (ps := [(39 : Int) + Op.lookupswitch.offset [(8, 25), (9, 47)] (69) (X3_kindOf (am_sub q2.2 11) a2).toInt = ((86 : Nat) : Int)]) rfl ⟨(by rw [c5]; decide), trivial⟩ ?_
        refine hV.cVi (as := [.int a1, .int 9]) (js := [0, 1, 2, 3, 4, 5, 6, 7, 8, 9, 10, 11, 12, 13, 14, 15, 16, 17, 18]) (rest := [.int 9, .int a1, .ref 0]) (st := [.int 9, .int a1, .ref 0, .int 9, .int a1, .ref 0]) (ws2 := wX2 11 q2.2 τ) (pc2 := 97) kX2_81 (c_X2_get l q2.2 τ a1 9) rfl rfl rfl rfl rfl rfl rfl rfl rfl rfl rfl rfl ?_
        refine hV.run 4 [] (ws' := wX2 11 q2.2 τ) (pc' := 103) (ls' := [(4, .int q2.1), (3, .int (jat 40 (σ 13) a2)), (0, .ref 0), (1, .int a1), (2, .int a2)]) (st' := [.int (((X2_get q2.2 a1 9) * 31) + q2.1), .int 9, .int a1, .ref 0]) (ps := []) rfl trivial ?_
        obtain ⟨q6, hq6, h⟩ := am_bind h
        refine hV.cVv (as := [.int a1, .int 9, .int (((X2_get q2.2 a1 9) * 31) + q2.1)]) (js := [0, 1, 2, 3, 4, 5, 6, 7, 8, 9, 10, 11, 12, 13, 14, 15, 16, 17, 18]) (rest := []) (st := [.int (((X2_get q2.2 a1 9) * 31) + q2.1), .int 9, .int a1, .ref 0]) (ws2 := wX2 11 q6 τ) (pc2 := 106) kX2_73 (c_X2_set l q2.2 τ a1 9 (((X2_get q2.2 a1 9) * 31) + q2.1) q6 hq6) rfl rfl rfl rfl rfl rfl rfl rfl rfl rfl rfl rfl ?_
        refine hV.run 1 [] (ws' := wX2 11 q6 τ) (pc' := 107) (ls' := [(4, .int q2.1), (3, .int (jat 40 (σ 13) a2)), (0, .ref 0), (1, .int a1), (2, .int a2)]) (st' := [.int (jat 40 (σ 13) a2)]) (ps := []) rfl trivial ?_
        cases h
        exact hV.ri rfl rfl rfl hP
      · rw [if_neg c5] at h
        by_cases c7 : q2.1 = 0
        · rw [if_pos c7] at h
          refine hV.run 7 [0, 1] (ws' := wX2 11 q2.2 τ) (pc' := 125) (ls' := [(4, .int q2.1), (3, .int (jat 40 (σ 13) a2)), (0, .ref 0), (1, .int a1), (2, .int a2)]) (st' := [.int a2, .ref 14]) (ps := [(39 : Int) + Op.lookupswitch.offset [(8, 25), (9, 47)] (69) (X3_kindOf (am_sub q2.2 11) a2).toInt = ((108 : Nat) : Int), q2.1 = 0]) rfl ⟨(am_lsd (by have c3_ := am_ne c3 (by decide : (8 : Int32).toInt = 8); have c5_ := am_ne c5 (by decide : (9 : Int32).toInt = 9); simp [Op.lookupswitch.offset, c3_, c5_, Ne.symm c3_, Ne.symm c5_])), c7, trivial⟩ ?_
          refine hV.cSi (as := [.ref 0, .int a2]) (js := [14]) (rest := []) (st := [.int a2, .ref 14]) (ws2 := wX2 11 q2.2 τ) (pc2 := 128) kX2_110 (c_at l 1 40 (by decide) (q2.2 14) a2) rfl rfl rfl rfl rfl rfl rfl rfl rfl rfl ?_
          cases h
          exact hV.ri rfl rfl rfl hP
        · rw [if_neg c7] at h
          refine hV.run 5 [0, 0] (ws' := wX2 11 q2.2 τ) (pc' := 128) (ls' := [(4, .int q2.1), (3, .int (jat 40 (σ 13) a2)), (0, .ref 0), (1, .int a1), (2, .int a2)]) (st' := [.int (jat 40 (σ 13) a2)]) (ps := [(39 : Int) + Op.lookupswitch.offset [(8, 25), (9, 47)] (69) (X3_kindOf (am_sub q2.2 11) a2).toInt = ((108 : Nat) : Int), ¬ q2.1 = 0]) rfl ⟨(am_lsd (by have c3_ := am_ne c3 (by decide : (8 : Int32).toInt = 8); have c5_ := am_ne c5 (by decide : (9 : Int32).toInt = 9); simp [Op.lookupswitch.offset, c3_, c5_, Ne.symm c3_, Ne.symm c5_])), c7, trivial⟩ ?_
          cases h
          exact hV.ri rfl rfl rfl hP

def X2_doing (σ : am_M) (a1 : Int32) : Int32 := if (X2_isHand σ a1) = true then (if (X2_get σ a1 1) = 1 then (-1) else (X3_kindOf (am_sub σ 11) (X2_get σ a1 0))) else (-1)
set_option maxRecDepth 100000 in
theorem c_X2_doing (l : Launch) (σ : am_M) (τ : Nat → Int64) (a1 : Int32) : am_Con l yX2_doing cX2_doing 2 (some .int) 3 [.ref 0, .int a1] (wX2 11 σ τ) (fun (r : Option Value) (w : am_W) => r = (some (.int (X2_doing σ a1))) ∧ w = (wX2 11 σ τ)) := by
  obtain ⟨res, h⟩ : ∃ res, (X2_doing σ a1) = res := ⟨_, rfl⟩
  rw [h]
  refine am_met (own := RX2) (cd := am_cdT' tX2_doing) (rf := am_rfL rfX2) (ini := false) (by decide +kernel) rfl (by decide) dX2_doing rfX2_ok (Nat.le_of_ble_eq_true rfl) ?_
  intro V hV
  have hP : (fun (r : Option Value) (w : am_W) => r = (some (.int res)) ∧ w = (wX2 11 σ τ)) (some (.int res)) (wX2 11 σ τ) := ⟨rfl, rfl⟩
  show V (wX2 11 σ τ) 0 [(0, .ref 0), (1, .int a1)] []
  unfold X2_doing at h
  refine hV.run 2 [] (ws' := wX2 11 σ τ) (pc' := 2) (ls' := [(0, .ref 0), (1, .int a1)]) (st' := [.int a1, .ref 0]) (ps := []) rfl trivial ?_
  refine hV.cVi (as := [.int a1]) (js := [0, 1, 2, 3, 4, 5, 6, 7, 8, 9, 10, 11, 12, 13, 14, 15, 16, 17, 18]) (rest := []) (st := [.int a1, .ref 0]) (ws2 := wX2 11 σ τ) (pc2 := 5) kX2_85 (c_X2_isHand l σ τ a1) rfl rfl rfl rfl rfl rfl rfl rfl rfl rfl rfl rfl ?_
  by_cases c1 : (X2_isHand σ a1) = true
  · rw [if_pos c1] at h
    refine hV.run 4 [0] (ws' := wX2 11 σ τ) (pc' := 11) (ls' := [(0, .ref 0), (1, .int a1)]) (st' := [.int 1, .int a1, .ref 0]) (ps := [¬ (b2i (X2_isHand σ a1)) = 0]) rfl ⟨(b2i_t c1), trivial⟩ ?_
    refine hV.cVi (as := [.int a1, .int 1]) (js := [0, 1, 2, 3, 4, 5, 6, 7, 8, 9, 10, 11, 12, 13, 14, 15, 16, 17, 18]) (rest := []) (st := [.int 1, .int a1, .ref 0]) (ws2 := wX2 11 σ τ) (pc2 := 14) kX2_81 (c_X2_get l σ τ a1 1) rfl rfl rfl rfl rfl rfl rfl rfl rfl rfl rfl rfl ?_
    by_cases c2 : (X2_get σ a1 1) = 1
    · rw [if_pos c2] at h
      refine hV.run 3 [0] (ws' := wX2 11 σ τ) (pc' := 19) (ls' := [(0, .ref 0), (1, .int a1)]) (st' := [.int (-1)]) (ps := [(X2_get σ a1 1) = 1]) rfl ⟨c2, trivial⟩ ?_
      subst h
      exact hV.ri rfl rfl rfl hP
    · rw [if_neg c2] at h
      refine hV.run 7 [1] (ws' := wX2 11 σ τ) (pc' := 27) (ls' := [(0, .ref 0), (1, .int a1)]) (st' := [.int 0, .int a1, .ref 0, .ref 11]) (ps := [¬ (X2_get σ a1 1) = 1]) rfl ⟨c2, trivial⟩ ?_
      refine hV.cVi (as := [.int a1, .int 0]) (js := [0, 1, 2, 3, 4, 5, 6, 7, 8, 9, 10, 11, 12, 13, 14, 15, 16, 17, 18]) (rest := [.ref 11]) (st := [.int 0, .int a1, .ref 0, .ref 11]) (ws2 := wX2 11 σ τ) (pc2 := 30) kX2_81 (c_X2_get l σ τ a1 0) rfl rfl rfl rfl rfl rfl rfl rfl rfl rfl rfl rfl ?_
      refine hV.cVi (as := [.int (X2_get σ a1 0)]) (js := [11, 12, 13, 14, 15, 16, 17, 18]) (rest := []) (st := [.int (X2_get σ a1 0), .ref 11]) (ws2 := wX2 11 σ τ) (pc2 := 33) kX2_89 (c_X3_kindOf l (am_sub σ 11) (X2_get σ a1 0)) rfl rfl rfl rfl rfl rfl rfl rfl rfl rfl rfl rfl ?_
      subst h
      exact hV.ri rfl rfl rfl hP
  · rw [if_neg c1] at h
    refine hV.run 2 [1] (ws' := wX2 11 σ τ) (pc' := 19) (ls' := [(0, .ref 0), (1, .int a1)]) (st' := [.int (-1)]) (ps := [(b2i (X2_isHand σ a1)) = 0]) rfl ⟨(b2i_f c1), trivial⟩ ?_
    subst h
    exact hV.ri rfl rfl rfl hP

def X2_arrive_J150 (n : Nat) (τ : Nat → Int64) (σ : am_M) (l1 : Int32) : Option am_M := (X2_stop σ l1).bind (fun q1 => some q1)
set_option maxRecDepth 100000 in
theorem p_X2_arrive_J150 {l : Launch} {Post : Option Value → am_W → Prop} {V : am_VT} (hV : am_B l RX2 false 4 (am_cdT' tX2_arrive) (am_rfL rfX2) none Post 19 V) (n : Nat) (τ : Nat → Int64) (res : am_M) (hP : Post none (wX2 11 res τ)) (σ : am_M) (l1 : Int32) (h : X2_arrive_J150 n τ σ l1 = some res) : V (wX2 11 σ τ) 150 [(0, .ref 0), (1, .int l1)] [] := by
  unfold X2_arrive_J150 at h
  refine hV.run 2 [] (ws' := wX2 11 σ τ) (pc' := 152) (ls' := [(0, .ref 0), (1, .int l1)]) (st' := [.int l1, .ref 0]) (ps := []) rfl trivial ?_
  obtain ⟨q1, hq1, h⟩ := am_bind h
  refine hV.cVv (as := [.int l1]) (js := [0, 1, 2, 3, 4, 5, 6, 7, 8, 9, 10, 11, 12, 13, 14, 15, 16, 17, 18]) (rest := []) (st := [.int l1, .ref 0]) (ws2 := wX2 11 q1 τ) (pc2 := 155) kX2_103 (c_X2_stop l σ τ l1 q1 hq1) rfl rfl rfl rfl rfl rfl rfl rfl rfl rfl rfl rfl ?_
  cases h
  exact hV.rv rfl rfl rfl hP
def X2_arrive_J118 (n : Nat) (τ : Nat → Int64) (σ : am_M) (l1 : Int32) (s0 : Int32) : Option am_M := if s0 = 0 then (some σ) else (if (X2_isHand σ (X2_get σ l1 10)) = true then (if (X2_get σ l1 10) = l1 then (X2_arrive_J150 n τ σ l1) else (some σ)) else (X2_arrive_J150 n τ σ l1))
set_option maxRecDepth 100000 in
theorem p_X2_arrive_J118 {l : Launch} {Post : Option Value → am_W → Prop} {V : am_VT} (hV : am_B l RX2 false 4 (am_cdT' tX2_arrive) (am_rfL rfX2) none Post 19 V) (n : Nat) (τ : Nat → Int64) (res : am_M) (hP : Post none (wX2 11 res τ)) (σ : am_M) (l1 : Int32) (s0 : Int32) (h : X2_arrive_J118 n τ σ l1 s0 = some res) : V (wX2 11 σ τ) 118 [(0, .ref 0), (1, .int l1)] [.int s0] := by
  unfold X2_arrive_J118 at h
  by_cases c1 : s0 = 0
  · rw [if_pos c1] at h
    refine hV.run 3 [1] (ws' := wX2 11 σ τ) (pc' := 155) (ls' := [(5, .int s0), (0, .ref 0), (1, .int l1)]) (st' := []) (ps := [s0 = 0]) rfl ⟨c1, trivial⟩ ?_
    cases h
    exact hV.rv rfl rfl rfl hP
  · rw [if_neg c1] at h
    refine hV.run 7 [0] (ws' := wX2 11 σ τ) (pc' := 130) (ls' := [(5, .int s0), (0, .ref 0), (1, .int l1)]) (st' := [.int 10, .int l1, .ref 0, .ref 0]) (ps := [¬ s0 = 0]) rfl ⟨c1, trivial⟩ ?_
    refine hV.cVi (as := [.int l1, .int 10]) (js := [0, 1, 2, 3, 4, 5, 6, 7, 8, 9, 10, 11, 12, 13, 14, 15, 16, 17, 18]) (rest := [.ref 0]) (st := [.int 10, .int l1, .ref 0, .ref 0]) (ws2 := wX2 11 σ τ) (pc2 := 133) kX2_81 (c_X2_get l σ τ l1 10) rfl rfl rfl rfl rfl rfl rfl rfl rfl rfl rfl rfl ?_
    refine hV.cVi (as := [.int (X2_get σ l1 10)]) (js := [0, 1, 2, 3, 4, 5, 6, 7, 8, 9, 10, 11, 12, 13, 14, 15, 16, 17, 18]) (rest := []) (st := [.int (X2_get σ l1 10), .ref 0]) (ws2 := wX2 11 σ τ) (pc2 := 136) kX2_85 (c_X2_isHand l σ τ (X2_get σ l1 10)) rfl rfl rfl rfl rfl rfl rfl rfl rfl rfl rfl rfl ?_
    by_cases c2 : (X2_isHand σ (X2_get σ l1 10)) = true
    · rw [if_pos c2] at h
      refine hV.run 4 [0] (ws' := wX2 11 σ τ) (pc' := 143) (ls' := [(5, .int s0), (0, .ref 0), (1, .int l1)]) (st' := [.int 10, .int l1, .ref 0]) (ps := [¬ (b2i (X2_isHand σ (X2_get σ l1 10))) = 0]) rfl ⟨(b2i_t c2), trivial⟩ ?_
      refine hV.cVi (as := [.int l1, .int 10]) (js := [0, 1, 2, 3, 4, 5, 6, 7, 8, 9, 10, 11, 12, 13, 14, 15, 16, 17, 18]) (rest := []) (st := [.int 10, .int l1, .ref 0]) (ws2 := wX2 11 σ τ) (pc2 := 146) kX2_81 (c_X2_get l σ τ l1 10) rfl rfl rfl rfl rfl rfl rfl rfl rfl rfl rfl rfl ?_
      by_cases c3 : (X2_get σ l1 10) = l1
      · rw [if_pos c3] at h
        refine hV.run 2 [0] (ws' := wX2 11 σ τ) (pc' := 150) (ls' := [(5, .int s0), (0, .ref 0), (1, .int l1)]) (st' := []) (ps := [(X2_get σ l1 10) = l1]) rfl ⟨c3, trivial⟩ ?_
        refine hV.pick [1, 2] (ls' := [(0, .ref 0), (1, .int l1)]) rfl ?_
        exact p_X2_arrive_J150 hV n τ res hP σ l1 h
      · rw [if_neg c3] at h
        refine hV.run 2 [1] (ws' := wX2 11 σ τ) (pc' := 155) (ls' := [(5, .int s0), (0, .ref 0), (1, .int l1)]) (st' := []) (ps := [¬ (X2_get σ l1 10) = l1]) rfl ⟨c3, trivial⟩ ?_
        cases h
        exact hV.rv rfl rfl rfl hP
    · rw [if_neg c2] at h
      refine hV.run 1 [1] (ws' := wX2 11 σ τ) (pc' := 150) (ls' := [(5, .int s0), (0, .ref 0), (1, .int l1)]) (st' := []) (ps := [(b2i (X2_isHand σ (X2_get σ l1 10))) = 0]) rfl ⟨(b2i_f c2), trivial⟩ ?_
      refine hV.pick [1, 2] (ls' := [(0, .ref 0), (1, .int l1)]) rfl ?_
      exact p_X2_arrive_J150 hV n τ res hP σ l1 h
def X2_arrive_J117 (n : Nat) (τ : Nat → Int64) (σ : am_M) (l1 : Int32) : Option am_M := X2_arrive_J118 n τ σ l1 0
set_option maxRecDepth 100000 in
theorem p_X2_arrive_J117 {l : Launch} {Post : Option Value → am_W → Prop} {V : am_VT} (hV : am_B l RX2 false 4 (am_cdT' tX2_arrive) (am_rfL rfX2) none Post 19 V) (n : Nat) (τ : Nat → Int64) (res : am_M) (hP : Post none (wX2 11 res τ)) (σ : am_M) (l1 : Int32) (h : X2_arrive_J117 n τ σ l1 = some res) : V (wX2 11 σ τ) 117 [(0, .ref 0), (1, .int l1)] [] := by
  unfold X2_arrive_J117 at h
  refine hV.run 1 [] (ws' := wX2 11 σ τ) (pc' := 118) (ls' := [(0, .ref 0), (1, .int l1)]) (st' := [.int 0]) (ps := []) rfl trivial ?_
  exact p_X2_arrive_J118 hV n τ res hP σ l1 0 h
def X2_arrive_J57 (n : Nat) (τ : Nat → Int64) (σ : am_M) (l1 : Int32) (l3 : Int32) (l4 : Int32) (s0 : Int32) (s1 : Int32) (s2 : Int32) : Option am_M := (X2_set σ s2 s1 s0).bind (fun q1 => (X2_ask n q1 l1 l3 0).bind (fun q2 => (X2_set q2.2 l1 10 q2.1).bind (fun q3 => (X2_ask n q3 l1 l3 1).bind (fun q4 => (X2_set q4.2 l1 11 q4.1).bind (fun q5 => (X2_ask n q5 l1 l3 2).bind (fun q6 => (X2_set q6.2 l1 12 q6.1).bind (fun q7 => if l4 < 0 then (X2_arrive_J117 n τ q7 l1) else (if 3 < l4 then (X2_arrive_J117 n τ q7 l1) else (X2_arrive_J118 n τ q7 l1 1)))))))))
set_option maxRecDepth 100000 in
theorem p_X2_arrive_J57 {l : Launch} {Post : Option Value → am_W → Prop} {V : am_VT} (hV : am_B l RX2 false 4 (am_cdT' tX2_arrive) (am_rfL rfX2) none Post 19 V) (n : Nat) (τ : Nat → Int64) (res : am_M) (hP : Post none (wX2 11 res τ)) (σ : am_M) (l1 : Int32) (l3 : Int32) (l4 : Int32) (s0 : Int32) (s1 : Int32) (s2 : Int32) (h : X2_arrive_J57 n τ σ l1 l3 l4 s0 s1 s2 = some res) : V (wX2 11 σ τ) 57 [(0, .ref 0), (1, .int l1), (3, .int l3), (4, .int l4)] [.int s0, .int s1, .int s2, .ref 0] := by
  unfold X2_arrive_J57 at h
  obtain ⟨q1, hq1, h⟩ := am_bind h
  refine hV.cVv (as := [.int s2, .int s1, .int s0]) (js := [0, 1, 2, 3, 4, 5, 6, 7, 8, 9, 10, 11, 12, 13, 14, 15, 16, 17, 18]) (rest := []) (st := [.int s0, .int s1, .int s2, .ref 0]) (ws2 := wX2 11 q1 τ) (pc2 := 60) kX2_73 (c_X2_set l σ τ s2 s1 s0 q1 hq1) rfl rfl rfl rfl rfl rfl rfl rfl rfl rfl rfl rfl ?_
  refine hV.run 7 [] (ws' := wX2 11 q1 τ) (pc' := 68) (ls' := [(0, .ref 0), (1, .int l1), (3, .int l3), (4, .int l4)]) (st' := [.int 0, .int l3, .int l1, .ref 0, .int 10, .int l1, .ref 0]) (ps := []) rfl trivial ?_
  obtain ⟨q2, hq2, h⟩ := am_bind h
  refine hV.cVi (as := [.int l1, .int l3, .int 0]) (js := [0, 1, 2, 3, 4, 5, 6, 7, 8, 9, 10, 11, 12, 13, 14, 15, 16, 17, 18]) (rest := [.int 10, .int l1, .ref 0]) (st := [.int 0, .int l3, .int l1, .ref 0, .int 10, .int l1, .ref 0]) (ws2 := wX2 11 q2.2 τ) (pc2 := 71) kX2_99 (c_X2_ask l n q1 τ l1 l3 0 q2 hq2) rfl rfl rfl rfl rfl rfl rfl rfl rfl rfl rfl rfl ?_
  obtain ⟨q3, hq3, h⟩ := am_bind h
  refine hV.cVv (as := [.int l1, .int 10, .int q2.1]) (js := [0, 1, 2, 3, 4, 5, 6, 7, 8, 9, 10, 11, 12, 13, 14, 15, 16, 17, 18]) (rest := []) (st := [.int q2.1, .int 10, .int l1, .ref 0]) (ws2 := wX2 11 q3 τ) (pc2 := 74) kX2_73 (c_X2_set l q2.2 τ l1 10 q2.1 q3 hq3) rfl rfl rfl rfl rfl rfl rfl rfl rfl rfl rfl rfl ?_
  refine hV.run 7 [] (ws' := wX2 11 q3 τ) (pc' := 82) (ls' := [(0, .ref 0), (1, .int l1), (3, .int l3), (4, .int l4)]) (st' := [.int 1, .int l3, .int l1, .ref 0, .int 11, .int l1, .ref 0]) (ps := []) rfl trivial ?_
  obtain ⟨q4, hq4, h⟩ := am_bind h
  refine hV.cVi (as := [.int l1, .int l3, .int 1]) (js := [0, 1, 2, 3, 4, 5, 6, 7, 8, 9, 10, 11, 12, 13, 14, 15, 16, 17, 18]) (rest := [.int 11, .int l1, .ref 0]) (st := [.int 1, .int l3, .int l1, .ref 0, .int 11, .int l1, .ref 0]) (ws2 := wX2 11 q4.2 τ) (pc2 := 85) kX2_99 (c_X2_ask l n q3 τ l1 l3 1 q4 hq4) rfl rfl rfl rfl rfl rfl rfl rfl rfl rfl rfl rfl ?_
  obtain ⟨q5, hq5, h⟩ := am_bind h
  refine hV.cVv (as := [.int l1, .int 11, .int q4.1]) (js := [0, 1, 2, 3, 4, 5, 6, 7, 8, 9, 10, 11, 12, 13, 14, 15, 16, 17, 18]) (rest := []) (st := [.int q4.1, .int 11, .int l1, .ref 0]) (ws2 := wX2 11 q5 τ) (pc2 := 88) kX2_73 (c_X2_set l q4.2 τ l1 11 q4.1 q5 hq5) rfl rfl rfl rfl rfl rfl rfl rfl rfl rfl rfl rfl ?_
  refine hV.run 7 [] (ws' := wX2 11 q5 τ) (pc' := 96) (ls' := [(0, .ref 0), (1, .int l1), (3, .int l3), (4, .int l4)]) (st' := [.int 2, .int l3, .int l1, .ref 0, .int 12, .int l1, .ref 0]) (ps := []) rfl trivial ?_
  obtain ⟨q6, hq6, h⟩ := am_bind h
  refine hV.cVi (as := [.int l1, .int l3, .int 2]) (js := [0, 1, 2, 3, 4, 5, 6, 7, 8, 9, 10, 11, 12, 13, 14, 15, 16, 17, 18]) (rest := [.int 12, .int l1, .ref 0]) (st := [.int 2, .int l3, .int l1, .ref 0, .int 12, .int l1, .ref 0]) (ws2 := wX2 11 q6.2 τ) (pc2 := 99) kX2_99 (c_X2_ask l n q5 τ l1 l3 2 q6 hq6) rfl rfl rfl rfl rfl rfl rfl rfl rfl rfl rfl rfl ?_
  obtain ⟨q7, hq7, h⟩ := am_bind h
  refine hV.cVv (as := [.int l1, .int 12, .int q6.1]) (js := [0, 1, 2, 3, 4, 5, 6, 7, 8, 9, 10, 11, 12, 13, 14, 15, 16, 17, 18]) (rest := []) (st := [.int q6.1, .int 12, .int l1, .ref 0]) (ws2 := wX2 11 q7 τ) (pc2 := 102) kX2_73 (c_X2_set l q6.2 τ l1 12 q6.1 q7 hq7) rfl rfl rfl rfl rfl rfl rfl rfl rfl rfl rfl rfl ?_
  by_cases c8 : l4 < 0
  · rw [if_pos c8] at h
    refine hV.run 2 [1] (ws' := wX2 11 q7 τ) (pc' := 117) (ls' := [(0, .ref 0), (1, .int l1), (3, .int l3), (4, .int l4)]) (st' := []) (ps := [l4 < 0]) rfl ⟨c8, trivial⟩ ?_
    refine hV.pick [0, 1] (ls' := [(0, .ref 0), (1, .int l1)]) rfl ?_
    exact p_X2_arrive_J117 hV n τ res hP q7 l1 h
  · rw [if_neg c8] at h
    by_cases c9 : 3 < l4
    · rw [if_pos c9] at h
      refine hV.run 5 [0, 1] (ws' := wX2 11 q7 τ) (pc' := 117) (ls' := [(0, .ref 0), (1, .int l1), (3, .int l3), (4, .int l4)]) (st' := []) (ps := [¬ l4 < 0, 3 < l4]) rfl ⟨c8, c9, trivial⟩ ?_
      refine hV.pick [0, 1] (ls' := [(0, .ref 0), (1, .int l1)]) rfl ?_
      exact p_X2_arrive_J117 hV n τ res hP q7 l1 h
    · rw [if_neg c9] at h
      refine hV.run 7 [0, 0] (ws' := wX2 11 q7 τ) (pc' := 118) (ls' := [(0, .ref 0), (1, .int l1), (3, .int l3), (4, .int l4)]) (st' := [.int 1]) (ps := [¬ l4 < 0, ¬ 3 < l4]) rfl ⟨c8, c9, trivial⟩ ?_
      refine hV.pick [0, 1] (ls' := [(0, .ref 0), (1, .int l1)]) rfl ?_
      exact p_X2_arrive_J118 hV n τ res hP q7 l1 1 h
def X2_arrive_J33 (n : Nat) (τ : Nat → Int64) (σ : am_M) (l1 : Int32) (l3 : Int32) : Option am_M := if (X3_kindOf (am_sub σ 11) l3) = (-1) then (X2_arrive_J57 n τ σ l1 l3 (X3_kindOf (am_sub σ 11) l3) (-1) 0 l1) else (X2_arrive_J57 n τ σ l1 l3 (X3_kindOf (am_sub σ 11) l3) l3 0 l1)
set_option maxRecDepth 100000 in
theorem p_X2_arrive_J33 {l : Launch} {Post : Option Value → am_W → Prop} {V : am_VT} (hV : am_B l RX2 false 4 (am_cdT' tX2_arrive) (am_rfL rfX2) none Post 19 V) (n : Nat) (τ : Nat → Int64) (res : am_M) (hP : Post none (wX2 11 res τ)) (σ : am_M) (l1 : Int32) (l3 : Int32) (h : X2_arrive_J33 n τ σ l1 l3 = some res) : V (wX2 11 σ τ) 33 [(0, .ref 0), (1, .int l1), (3, .int l3)] [] := by
  unfold X2_arrive_J33 at h
  refine hV.run 3 [] (ws' := wX2 11 σ τ) (pc' := 38) (ls' := [(0, .ref 0), (1, .int l1), (3, .int l3)]) (st' := [.int l3, .ref 11]) (ps := []) rfl trivial ?_
  refine hV.cVi (as := [.int l3]) (js := [11, 12, 13, 14, 15, 16, 17, 18]) (rest := []) (st := [.int l3, .ref 11]) (ws2 := wX2 11 σ τ) (pc2 := 41) kX2_89 (c_X3_kindOf l (am_sub σ 11) l3) rfl rfl rfl rfl rfl rfl rfl rfl rfl rfl rfl rfl ?_
  by_cases c1 : (X3_kindOf (am_sub σ 11) l3) = (-1)
  · rw [if_pos c1] at h
    refine hV.run 9 [0] (ws' := wX2 11 σ τ) (pc' := 57) (ls' := [(4, .int (X3_kindOf (am_sub σ 11) l3)), (0, .ref 0), (1, .int l1), (3, .int l3)]) (st' := [.int (-1), .int 0, .int l1, .ref 0]) (ps := [(X3_kindOf (am_sub σ 11) l3) = (-1)]) rfl ⟨c1, trivial⟩ ?_
    refine hV.pick [1, 2, 3, 0] (ls' := [(0, .ref 0), (1, .int l1), (3, .int l3), (4, .int (X3_kindOf (am_sub σ 11) l3))]) rfl ?_
    exact p_X2_arrive_J57 hV n τ res hP σ l1 l3 (X3_kindOf (am_sub σ 11) l3) (-1) 0 l1 h
  · rw [if_neg c1] at h
    refine hV.run 8 [1] (ws' := wX2 11 σ τ) (pc' := 57) (ls' := [(4, .int (X3_kindOf (am_sub σ 11) l3)), (0, .ref 0), (1, .int l1), (3, .int l3)]) (st' := [.int l3, .int 0, .int l1, .ref 0]) (ps := [¬ (X3_kindOf (am_sub σ 11) l3) = (-1)]) rfl ⟨c1, trivial⟩ ?_
    refine hV.pick [1, 2, 3, 0] (ls' := [(0, .ref 0), (1, .int l1), (3, .int l3), (4, .int (X3_kindOf (am_sub σ 11) l3))]) rfl ?_
    exact p_X2_arrive_J57 hV n τ res hP σ l1 l3 (X3_kindOf (am_sub σ 11) l3) l3 0 l1 h
def X2_arrive_B5 (n : Nat) (τ : Nat → Int64) (kont5 : am_M → Int32 → Int32 → Int32 → Option am_M) (σ : am_M) (l1 : Int32) (l3 : Int32) (l4 : Int32) : Option am_M := if 40 < l4 then (X2_arrive_J33 n τ σ l1 l3) else (if (X2_isQuiet σ τ l3) = true then (X2_pass n σ τ l1 l3).bind (fun q3 => kont5 q3.2 l1 q3.1 (l4 + 1)) else (X2_arrive_J33 n τ σ l1 l3))
def X2_arrive_L5 (n : Nat) (τ : Nat → Int64) : Nat → am_M → Int32 → Int32 → Int32 → Option am_M
 | 0 => fun _ _ _ _ => none
 | k + 1 => fun σ l1 l3 l4 => X2_arrive_B5 n τ (X2_arrive_L5 n τ k) σ l1 l3 l4
set_option maxRecDepth 100000 in
theorem p_X2_arrive_B5 {l : Launch} {Post : Option Value → am_W → Prop} {V : am_VT} (hV : am_B l RX2 false 4 (am_cdT' tX2_arrive) (am_rfL rfX2) none Post 19 V) (n : Nat) (τ : Nat → Int64) (res : am_M) (hP : Post none (wX2 11 res τ)) (kont5 : am_M → Int32 → Int32 → Int32 → Option am_M) (hk5 : ∀ (σ : am_M) (l1 : Int32) (l3 : Int32) (l4 : Int32), kont5 σ l1 l3 l4 = some res → V (wX2 11 σ τ) 5 [(0, .ref 0), (1, .int l1), (3, .int l3), (4, .int l4)] []) (σ : am_M) (l1 : Int32) (l3 : Int32) (l4 : Int32) (h : X2_arrive_B5 n τ kont5 σ l1 l3 l4 = some res) : V (wX2 11 σ τ) 5 [(0, .ref 0), (1, .int l1), (3, .int l3), (4, .int l4)] [] := by
  unfold X2_arrive_B5 at h
  by_cases c1 : 40 < l4
  · rw [if_pos c1] at h
    refine hV.run 3 [1] (ws' := wX2 11 σ τ) (pc' := 33) (ls' := [(0, .ref 0), (1, .int l1), (3, .int l3), (4, .int l4)]) (st' := []) (ps := [40 < l4]) rfl ⟨c1, trivial⟩ ?_
    refine hV.pick [0, 1, 2] (ls' := [(0, .ref 0), (1, .int l1), (3, .int l3)]) rfl ?_
    exact p_X2_arrive_J33 hV n τ res hP σ l1 l3 h
  · rw [if_neg c1] at h
    refine hV.run 5 [0] (ws' := wX2 11 σ τ) (pc' := 14) (ls' := [(0, .ref 0), (1, .int l1), (3, .int l3), (4, .int l4)]) (st' := [.int l3, .ref 0]) (ps := [¬ 40 < l4]) rfl ⟨c1, trivial⟩ ?_
    refine hV.cVi (as := [.int l3]) (js := [0, 1, 2, 3, 4, 5, 6, 7, 8, 9, 10, 11, 12, 13, 14, 15, 16, 17, 18]) (rest := []) (st := [.int l3, .ref 0]) (ws2 := wX2 11 σ τ) (pc2 := 17) kX2_93 (c_X2_isQuiet l σ τ l3) rfl rfl rfl rfl rfl rfl rfl rfl rfl rfl rfl rfl ?_
    by_cases c2 : (X2_isQuiet σ τ l3) = true
    · rw [if_pos c2] at h
      refine hV.run 4 [0] (ws' := wX2 11 σ τ) (pc' := 23) (ls' := [(0, .ref 0), (1, .int l1), (3, .int l3), (4, .int l4)]) (st' := [.int l3, .int l1, .ref 0]) (ps := [¬ (b2i (X2_isQuiet σ τ l3)) = 0]) rfl ⟨(b2i_t c2), trivial⟩ ?_
      obtain ⟨q3, hq3, h⟩ := am_bind h
      refine hV.cVi (as := [.int l1, .int l3]) (js := [0, 1, 2, 3, 4, 5, 6, 7, 8, 9, 10, 11, 12, 13, 14, 15, 16, 17, 18]) (rest := []) (st := [.int l3, .int l1, .ref 0]) (ws2 := wX2 11 q3.2 τ) (pc2 := 26) kX2_96 (c_X2_pass l n σ τ l1 l3 q3 hq3) rfl rfl rfl rfl rfl rfl rfl rfl rfl rfl rfl rfl ?_
      refine hV.run 3 [] (ws' := wX2 11 q3.2 τ) (pc' := 5) (ls' := [(4, .int (l4 + 1)), (3, .int q3.1), (0, .ref 0), (1, .int l1)]) (st' := []) (ps := []) rfl trivial ?_
      refine hV.pick [2, 3, 1, 0] (ls' := [(0, .ref 0), (1, .int l1), (3, .int q3.1), (4, .int (l4 + 1))]) rfl ?_
      exact hk5 q3.2 l1 q3.1 (l4 + 1) h
    · rw [if_neg c2] at h
      refine hV.run 1 [1] (ws' := wX2 11 σ τ) (pc' := 33) (ls' := [(0, .ref 0), (1, .int l1), (3, .int l3), (4, .int l4)]) (st' := []) (ps := [(b2i (X2_isQuiet σ τ l3)) = 0]) rfl ⟨(b2i_f c2), trivial⟩ ?_
      refine hV.pick [0, 1, 2] (ls' := [(0, .ref 0), (1, .int l1), (3, .int l3)]) rfl ?_
      exact p_X2_arrive_J33 hV n τ res hP σ l1 l3 h
theorem p_X2_arrive_L5 {l : Launch} {Post : Option Value → am_W → Prop} {V : am_VT} (hV : am_B l RX2 false 4 (am_cdT' tX2_arrive) (am_rfL rfX2) none Post 19 V) (n : Nat) (τ : Nat → Int64) (res : am_M) (hP : Post none (wX2 11 res τ)) : ∀ (k : Nat) (σ : am_M) (l1 : Int32) (l3 : Int32) (l4 : Int32) (h : X2_arrive_L5 n τ k σ l1 l3 l4 = some res), V (wX2 11 σ τ) 5 [(0, .ref 0), (1, .int l1), (3, .int l3), (4, .int l4)] [] := by
  intro k
  induction k with
  | zero => intro σ l1 l3 l4 h; cases h
  | succ k ih => intro σ l1 l3 l4 h; exact p_X2_arrive_B5 hV n τ res hP _ ih σ l1 l3 l4 h
def X2_arrive (n : Nat) (τ : Nat → Int64) (σ : am_M) (a1 : Int32) (a2 : Int32) : Option am_M := X2_arrive_L5 n τ n σ a1 a2 0
set_option maxRecDepth 100000 in
theorem c_X2_arrive (l : Launch) (n : Nat) (τ : Nat → Int64) (σ : am_M) (a1 : Int32) (a2 : Int32) (res : am_M) (h : X2_arrive n τ σ a1 a2 = some res) : am_Con l yX2_arrive cX2_arrive 6 none 4 [.ref 0, .int a1, .int a2] (wX2 11 σ τ) (fun (r : Option Value) (w : am_W) => r = none ∧ w = (wX2 11 res τ)) := by
  refine am_met (own := RX2) (cd := am_cdT' tX2_arrive) (rf := am_rfL rfX2) (ini := false) (by decide +kernel) rfl (by decide) dX2_arrive rfX2_ok (Nat.le_of_ble_eq_true rfl) ?_
  intro V hV
  have hP : (fun (r : Option Value) (w : am_W) => r = none ∧ w = (wX2 11 res τ)) none (wX2 11 res τ) := ⟨rfl, rfl⟩
  show V (wX2 11 σ τ) 0 [(0, .ref 0), (1, .int a1), (2, .int a2)] []
  unfold X2_arrive at h
  refine hV.run 4 [] (ws' := wX2 11 σ τ) (pc' := 5) (ls' := [(4, .int 0), (3, .int a2), (0, .ref 0), (1, .int a1), (2, .int a2)]) (st' := []) (ps := []) rfl trivial ?_
  refine hV.pick [2, 3, 1, 0] (ls' := [(0, .ref 0), (1, .int a1), (3, .int a2), (4, .int 0)]) rfl ?_
  exact p_X2_arrive_L5 hV n τ res hP n σ a1 a2 0 h

def X2_goOn_J43 (n : Nat) (τ : Nat → Int64) (kont2 : am_M → Int32 → Option am_M) (σ : am_M) (l1 : Int32) : Option am_M := kont2 σ (l1 + 1)
set_option maxRecDepth 100000 in
theorem p_X2_goOn_J43 {l : Launch} {Post : Option Value → am_W → Prop} {V : am_VT} (hV : am_B l RX2 false 5 (am_cdT' tX2_goOn) (am_rfL rfX2) none Post 19 V) (n : Nat) (τ : Nat → Int64) (res : am_M) (hP : Post none (wX2 11 res τ)) (kont2 : am_M → Int32 → Option am_M) (hk2 : ∀ (σ : am_M) (l1 : Int32), kont2 σ l1 = some res → V (wX2 11 σ τ) 2 [(0, .ref 0), (1, .int l1)] []) (σ : am_M) (l1 : Int32) (h : X2_goOn_J43 n τ kont2 σ l1 = some res) : V (wX2 11 σ τ) 43 [(0, .ref 0), (1, .int l1)] [] := by
  unfold X2_goOn_J43 at h
  refine hV.run 2 [] (ws' := wX2 11 σ τ) (pc' := 2) (ls' := [(1, .int (l1 + 1)), (0, .ref 0)]) (st' := []) (ps := []) rfl trivial ?_
  refine hV.pick [1, 0] (ls' := [(0, .ref 0), (1, .int (l1 + 1))]) rfl ?_
  exact hk2 σ (l1 + 1) h
def X2_goOn_B2 (n : Nat) (τ : Nat → Int64) (kont2 : am_M → Int32 → Option am_M) (σ : am_M) (l1 : Int32) : Option am_M := if (σ 0 1) ≤ l1 then (some (sC σ 0 (upd (σ 0) 15 0))) else (if (((σ 0 15) >>> (l1 &&& 31)) &&& 1) = 1 then (X2_arrive n σ τ l1 (jat 40 (σ 13) (X2_get σ l1 0))).bind (fun q3 => X2_goOn_J43 n τ kont2 q3 l1) else (X2_goOn_J43 n τ kont2 σ l1))
def X2_goOn_L2 (n : Nat) (τ : Nat → Int64) : Nat → am_M → Int32 → Option am_M
 | 0 => fun _ _ => none
 | k + 1 => fun σ l1 => X2_goOn_B2 n τ (X2_goOn_L2 n τ k) σ l1
set_option maxRecDepth 100000 in
theorem p_X2_goOn_B2 {l : Launch} {Post : Option Value → am_W → Prop} {V : am_VT} (hV : am_B l RX2 false 5 (am_cdT' tX2_goOn) (am_rfL rfX2) none Post 19 V) (n : Nat) (τ : Nat → Int64) (res : am_M) (hP : Post none (wX2 11 res τ)) (kont2 : am_M → Int32 → Option am_M) (hk2 : ∀ (σ : am_M) (l1 : Int32), kont2 σ l1 = some res → V (wX2 11 σ τ) 2 [(0, .ref 0), (1, .int l1)] []) (σ : am_M) (l1 : Int32) (h : X2_goOn_B2 n τ kont2 σ l1 = some res) : V (wX2 11 σ τ) 2 [(0, .ref 0), (1, .int l1)] [] := by
  unfold X2_goOn_B2 at h
  by_cases c1 : (σ 0 1) ≤ l1
  · rw [if_pos c1] at h
    refine hV.run 7 [1] (ws' := wX2 11 (sC σ 0 (upd (σ 0) 15 0)) τ) (pc' := 54) (ls' := [(0, .ref 0), (1, .int l1)]) (st' := []) (ps := [(σ 0 1) ≤ l1]) rfl ⟨c1, trivial⟩ ?_
    cases h
    exact hV.rv rfl rfl rfl hP
  · rw [if_neg c1] at h
    by_cases c2 : (((σ 0 15) >>> (l1 &&& 31)) &&& 1) = 1
    · rw [if_pos c2] at h
      refine hV.run 20 [0, 0] (ws' := wX2 11 σ τ) (pc' := 34) (ls' := [(0, .ref 0), (1, .int l1)]) (st' := [.int 0, .int l1, .ref 0, .ref 13, .int l1, .ref 0]) (ps := [¬ (σ 0 1) ≤ l1, (((σ 0 15) >>> (l1 &&& 31)) &&& 1) = 1]) rfl ⟨c1, c2, trivial⟩ ?_
      refine hV.cVi (as := [.int l1, .int 0]) (js := [0, 1, 2, 3, 4, 5, 6, 7, 8, 9, 10, 11, 12, 13, 14, 15, 16, 17, 18]) (rest := [.ref 13, .int l1, .ref 0]) (st := [.int 0, .int l1, .ref 0, .ref 13, .int l1, .ref 0]) (ws2 := wX2 11 σ τ) (pc2 := 37) kX2_81 (c_X2_get l σ τ l1 0) rfl rfl rfl rfl rfl rfl rfl rfl rfl rfl rfl rfl ?_
      refine hV.cSi (as := [.ref 0, .int (X2_get σ l1 0)]) (js := [13]) (rest := [.int l1, .ref 0]) (st := [.int (X2_get σ l1 0), .ref 13, .int l1, .ref 0]) (ws2 := wX2 11 σ τ) (pc2 := 40) kX2_110 (c_at l 1 40 (by decide) (σ 13) (X2_get σ l1 0)) rfl rfl rfl rfl rfl rfl rfl rfl rfl rfl ?_
      obtain ⟨q3, hq3, h⟩ := am_bind h
      refine hV.cVv (as := [.int l1, .int (jat 40 (σ 13) (X2_get σ l1 0))]) (js := [0, 1, 2, 3, 4, 5, 6, 7, 8, 9, 10, 11, 12, 13, 14, 15, 16, 17, 18]) (rest := []) (st := [.int (jat 40 (σ 13) (X2_get σ l1 0)), .int l1, .ref 0]) (ws2 := wX2 11 q3 τ) (pc2 := 43) kX2_77 (c_X2_arrive l n σ τ l1 (jat 40 (σ 13) (X2_get σ l1 0)) q3 hq3) rfl rfl rfl rfl rfl rfl rfl rfl rfl rfl rfl rfl ?_
      exact p_X2_goOn_J43 hV n τ res hP kont2 hk2 q3 l1 h
    · rw [if_neg c2] at h
      refine hV.run 12 [0, 1] (ws' := wX2 11 σ τ) (pc' := 43) (ls' := [(0, .ref 0), (1, .int l1)]) (st' := []) (ps := [¬ (σ 0 1) ≤ l1, ¬ (((σ 0 15) >>> (l1 &&& 31)) &&& 1) = 1]) rfl ⟨c1, c2, trivial⟩ ?_
      exact p_X2_goOn_J43 hV n τ res hP kont2 hk2 σ l1 h
theorem p_X2_goOn_L2 {l : Launch} {Post : Option Value → am_W → Prop} {V : am_VT} (hV : am_B l RX2 false 5 (am_cdT' tX2_goOn) (am_rfL rfX2) none Post 19 V) (n : Nat) (τ : Nat → Int64) (res : am_M) (hP : Post none (wX2 11 res τ)) : ∀ (k : Nat) (σ : am_M) (l1 : Int32) (h : X2_goOn_L2 n τ k σ l1 = some res), V (wX2 11 σ τ) 2 [(0, .ref 0), (1, .int l1)] [] := by
  intro k
  induction k with
  | zero => intro σ l1 h; cases h
  | succ k ih => intro σ l1 h; exact p_X2_goOn_B2 hV n τ res hP _ ih σ l1 h
def X2_goOn (n : Nat) (τ : Nat → Int64) (σ : am_M) : Option am_M := X2_goOn_L2 n τ n σ 0
set_option maxRecDepth 100000 in
theorem c_X2_goOn (l : Launch) (n : Nat) (τ : Nat → Int64) (σ : am_M) (res : am_M) (h : X2_goOn n τ σ = some res) : am_Con l yX2_goOn cX2_goOn 2 none 5 [.ref 0] (wX2 11 σ τ) (fun (r : Option Value) (w : am_W) => r = none ∧ w = (wX2 11 res τ)) := by
  refine am_met (own := RX2) (cd := am_cdT' tX2_goOn) (rf := am_rfL rfX2) (ini := false) (by decide +kernel) rfl (by decide) dX2_goOn rfX2_ok (Nat.le_of_ble_eq_true rfl) ?_
  intro V hV
  have hP : (fun (r : Option Value) (w : am_W) => r = none ∧ w = (wX2 11 res τ)) none (wX2 11 res τ) := ⟨rfl, rfl⟩
  show V (wX2 11 σ τ) 0 [(0, .ref 0)] []
  unfold X2_goOn at h
  refine hV.run 2 [] (ws' := wX2 11 σ τ) (pc' := 2) (ls' := [(1, .int 0), (0, .ref 0)]) (st' := []) (ps := []) rfl trivial ?_
  refine hV.pick [1, 0] (ls' := [(0, .ref 0), (1, .int 0)]) rfl ?_
  exact p_X2_goOn_L2 hV n τ res hP n σ 0 h

def X2_begin_B86 (n : Nat) (kont86 : am_M → (Nat → Int64) → Int32 → Int32 → Option (am_M × (Nat → Int64))) (σ : am_M) (τ : Nat → Int64) (l2 : Int32) (l8 : Int32) : Option (am_M × (Nat → Int64)) := if l2 ≤ l8 then (some (σ, τ)) else (X2_set σ l8 6 l8).bind (fun q2 => (X2_set q2 l8 7 l2).bind (fun q3 => (X2_arrive n q3 τ l8 0).bind (fun q4 => kont86 q4 τ l2 (l8 + 1))))
def X2_begin_L86 (n : Nat) : Nat → am_M → (Nat → Int64) → Int32 → Int32 → Option (am_M × (Nat → Int64))
 | 0 => fun _ _ _ _ => none
 | k + 1 => fun σ τ l2 l8 => X2_begin_B86 n (X2_begin_L86 n k) σ τ l2 l8
set_option maxRecDepth 100000 in
theorem p_X2_begin_B86 {l : Launch} {Post : Option Value → am_W → Prop} {V : am_VT} (hV : am_B l RX2 false 5 (am_cdT' tX2_begin) (am_rfL rfX2) none Post 19 V) (n : Nat) (res : (am_M × (Nat → Int64))) (hP : Post none (wX2 11 res.1 res.2)) (kont86 : am_M → (Nat → Int64) → Int32 → Int32 → Option (am_M × (Nat → Int64))) (hk86 : ∀ (σ : am_M) (τ : Nat → Int64) (l2 : Int32) (l8 : Int32), kont86 σ τ l2 l8 = some res → V (wX2 11 σ τ) 86 [(0, .ref 0), (2, .int l2), (8, .int l8)] []) (σ : am_M) (τ : Nat → Int64) (l2 : Int32) (l8 : Int32) (h : X2_begin_B86 n kont86 σ τ l2 l8 = some res) : V (wX2 11 σ τ) 86 [(0, .ref 0), (2, .int l2), (8, .int l8)] [] := by
  unfold X2_begin_B86 at h
  by_cases c1 : l2 ≤ l8
  · rw [if_pos c1] at h
    refine hV.run 3 [1] (ws' := wX2 11 σ τ) (pc' := 124) (ls' := [(0, .ref 0), (2, .int l2), (8, .int l8)]) (st' := []) (ps := [l2 ≤ l8]) rfl ⟨c1, trivial⟩ ?_
    cases h
    exact hV.rv rfl rfl rfl hP
  · rw [if_neg c1] at h
    refine hV.run 7 [0] (ws' := wX2 11 σ τ) (pc' := 99) (ls' := [(0, .ref 0), (2, .int l2), (8, .int l8)]) (st' := [.int l8, .int 6, .int l8, .ref 0]) (ps := [¬ l2 ≤ l8]) rfl ⟨c1, trivial⟩ ?_
    obtain ⟨q2, hq2, h⟩ := am_bind h
    refine hV.cVv (as := [.int l8, .int 6, .int l8]) (js := [0, 1, 2, 3, 4, 5, 6, 7, 8, 9, 10, 11, 12, 13, 14, 15, 16, 17, 18]) (rest := []) (st := [.int l8, .int 6, .int l8, .ref 0]) (ws2 := wX2 11 q2 τ) (pc2 := 102) kX2_73 (c_X2_set l σ τ l8 6 l8 q2 hq2) rfl rfl rfl rfl rfl rfl rfl rfl rfl rfl rfl rfl ?_
    refine hV.run 4 [] (ws' := wX2 11 q2 τ) (pc' := 108) (ls' := [(0, .ref 0), (2, .int l2), (8, .int l8)]) (st' := [.int l2, .int 7, .int l8, .ref 0]) (ps := []) rfl trivial ?_
    obtain ⟨q3, hq3, h⟩ := am_bind h
    refine hV.cVv (as := [.int l8, .int 7, .int l2]) (js := [0, 1, 2, 3, 4, 5, 6, 7, 8, 9, 10, 11, 12, 13, 14, 15, 16, 17, 18]) (rest := []) (st := [.int l2, .int 7, .int l8, .ref 0]) (ws2 := wX2 11 q3 τ) (pc2 := 111) kX2_73 (c_X2_set l q2 τ l8 7 l2 q3 hq3) rfl rfl rfl rfl rfl rfl rfl rfl rfl rfl rfl rfl ?_
    refine hV.run 3 [] (ws' := wX2 11 q3 τ) (pc' := 115) (ls' := [(0, .ref 0), (2, .int l2), (8, .int l8)]) (st' := [.int 0, .int l8, .ref 0]) (ps := []) rfl trivial ?_
    obtain ⟨q4, hq4, h⟩ := am_bind h
    refine hV.cVv (as := [.int l8, .int 0]) (js := [0, 1, 2, 3, 4, 5, 6, 7, 8, 9, 10, 11, 12, 13, 14, 15, 16, 17, 18]) (rest := []) (st := [.int 0, .int l8, .ref 0]) (ws2 := wX2 11 q4 τ) (pc2 := 118) kX2_77 (c_X2_arrive l n q3 τ l8 0 q4 hq4) rfl rfl rfl rfl rfl rfl rfl rfl rfl rfl rfl rfl ?_
    refine hV.run 2 [] (ws' := wX2 11 q4 τ) (pc' := 86) (ls' := [(8, .int (l8 + 1)), (0, .ref 0), (2, .int l2)]) (st' := []) (ps := []) rfl trivial ?_
    refine hV.pick [1, 2, 0] (ls' := [(0, .ref 0), (2, .int l2), (8, .int (l8 + 1))]) rfl ?_
    exact hk86 q4 τ l2 (l8 + 1) h
theorem p_X2_begin_L86 {l : Launch} {Post : Option Value → am_W → Prop} {V : am_VT} (hV : am_B l RX2 false 5 (am_cdT' tX2_begin) (am_rfL rfX2) none Post 19 V) (n : Nat) (res : (am_M × (Nat → Int64))) (hP : Post none (wX2 11 res.1 res.2)) : ∀ (k : Nat) (σ : am_M) (τ : Nat → Int64) (l2 : Int32) (l8 : Int32) (h : X2_begin_L86 n k σ τ l2 l8 = some res), V (wX2 11 σ τ) 86 [(0, .ref 0), (2, .int l2), (8, .int l8)] [] := by
  intro k
  induction k with
  | zero => intro σ τ l2 l8 h; cases h
  | succ k ih => intro σ τ l2 l8 h; exact p_X2_begin_B86 hV n res hP _ ih σ τ l2 l8 h
def X2_begin (n : Nat) (σ : am_M) (τ : Nat → Int64) (a2 : Int32) (a3 : Int32) (a4 : Int32) (a5 : Int32) (a6 : Int64) : Option (am_M × (Nat → Int64)) := X2_begin_L86 n n (sC (sC (sC (sC (sC (sC σ 0 (upd (upd (upd (upd (upd (upd (σ 0) 1 a2) 2 a3) 3 a4) 4 a5) 12 (-1)) 15 0)) 1 (jfill 104 (σ 1) 0)) 2 (upd (σ 2) 4 0)) 8 (jfill 8 (σ 8) 0)) 9 (jfill 8 (σ 9) 0)) 10 (jfill 8 (σ 10) 0)) (upd64 τ 0 a6) a2 0
set_option maxRecDepth 100000 in
theorem c_X2_begin (l : Launch) (n : Nat) (σ : am_M) (τ : Nat → Int64) (a2 : Int32) (a3 : Int32) (a4 : Int32) (a5 : Int32) (a6 : Int64) (res : (am_M × (Nat → Int64))) (h : X2_begin n σ τ a2 a3 a4 a5 a6 = some res) : am_Con l yX2_begin cX2_begin 9 none 5 [.ref 0, .ref 11, .int a2, .int a3, .int a4, .int a5, .long a6] (wX2 19 σ τ) (fun (r : Option Value) (w : am_W) => r = none ∧ w = (wX2 11 res.1 res.2)) := by
  refine am_met (own := RX2) (cd := am_cdT' tX2_begin) (rf := am_rfL rfX2) (ini := false) (by decide +kernel) rfl (by decide) dX2_begin rfX2_ok (Nat.le_of_ble_eq_true rfl) ?_
  intro V hV
  have hP : (fun (r : Option Value) (w : am_W) => r = none ∧ w = (wX2 11 res.1 res.2)) none (wX2 11 res.1 res.2) := ⟨rfl, rfl⟩
  show V (wX2 19 σ τ) 0 [(0, .ref 0), (1, .ref 11), (2, .int a2), (3, .int a3), (4, .int a4), (5, .int a5), (6, .long a6)] []
  unfold X2_begin at h
  refine hV.run 21 [] (ws' := wX2 11 (sC σ 0 (upd (upd (upd (upd (σ 0) 1 a2) 2 a3) 3 a4) 4 a5)) (upd64 τ 0 a6)) (pc' := 38) (ls' := [(0, .ref 0), (1, .ref 11), (2, .int a2), (3, .int a3), (4, .int a4), (5, .int a5), (6, .long a6)]) (st' := [.int 0, .ref 1]) (ps := []) rfl trivial ?_
  refine hV.cSv (as := [.ref 0, .int 0]) (js := [1]) (rest := []) (st := [.int 0, .ref 1]) (ws2 := wX2 11 (sC (sC σ 0 (upd (upd (upd (upd (σ 0) 1 a2) 2 a3) 3 a4) 4 a5)) 1 (jfill 104 (σ 1) 0)) (upd64 τ 0 a6)) (pc2 := 41) kX2_58 (c_fill l 1 104 (by decide) (σ 1) 0) rfl rfl rfl rfl rfl rfl rfl rfl rfl rfl ?_
  refine hV.run 3 [] (ws' := wX2 11 (sC (sC σ 0 (upd (upd (upd (upd (σ 0) 1 a2) 2 a3) 3 a4) 4 a5)) 1 (jfill 104 (σ 1) 0)) (upd64 τ 0 a6)) (pc' := 46) (ls' := [(0, .ref 0), (1, .ref 11), (2, .int a2), (3, .int a3), (4, .int a4), (5, .int a5), (6, .long a6)]) (st' := [.int 0, .ref 8]) (ps := []) rfl trivial ?_
  refine hV.cSv (as := [.ref 0, .int 0]) (js := [8]) (rest := []) (st := [.int 0, .ref 8]) (ws2 := wX2 11 (sC (sC (sC σ 0 (upd (upd (upd (upd (σ 0) 1 a2) 2 a3) 3 a4) 4 a5)) 1 (jfill 104 (σ 1) 0)) 8 (jfill 8 (σ 8) 0)) (upd64 τ 0 a6)) (pc2 := 49) kX2_58 (c_fill l 1 8 (by decide) (σ 8) 0) rfl rfl rfl rfl rfl rfl rfl rfl rfl rfl ?_
  refine hV.run 3 [] (ws' := wX2 11 (sC (sC (sC σ 0 (upd (upd (upd (upd (σ 0) 1 a2) 2 a3) 3 a4) 4 a5)) 1 (jfill 104 (σ 1) 0)) 8 (jfill 8 (σ 8) 0)) (upd64 τ 0 a6)) (pc' := 54) (ls' := [(0, .ref 0), (1, .ref 11), (2, .int a2), (3, .int a3), (4, .int a4), (5, .int a5), (6, .long a6)]) (st' := [.int 0, .ref 9]) (ps := []) rfl trivial ?_
  refine hV.cSv (as := [.ref 0, .int 0]) (js := [9]) (rest := []) (st := [.int 0, .ref 9]) (ws2 := wX2 11 (sC (sC (sC (sC σ 0 (upd (upd (upd (upd (σ 0) 1 a2) 2 a3) 3 a4) 4 a5)) 1 (jfill 104 (σ 1) 0)) 8 (jfill 8 (σ 8) 0)) 9 (jfill 8 (σ 9) 0)) (upd64 τ 0 a6)) (pc2 := 57) kX2_58 (c_fill l 1 8 (by decide) (σ 9) 0) rfl rfl rfl rfl rfl rfl rfl rfl rfl rfl ?_
  refine hV.run 3 [] (ws' := wX2 11 (sC (sC (sC (sC σ 0 (upd (upd (upd (upd (σ 0) 1 a2) 2 a3) 3 a4) 4 a5)) 1 (jfill 104 (σ 1) 0)) 8 (jfill 8 (σ 8) 0)) 9 (jfill 8 (σ 9) 0)) (upd64 τ 0 a6)) (pc' := 62) (ls' := [(0, .ref 0), (1, .ref 11), (2, .int a2), (3, .int a3), (4, .int a4), (5, .int a5), (6, .long a6)]) (st' := [.int 0, .ref 10]) (ps := []) rfl trivial ?_
  refine hV.cSv (as := [.ref 0, .int 0]) (js := [10]) (rest := []) (st := [.int 0, .ref 10]) (ws2 := wX2 11 (sC (sC (sC (sC (sC σ 0 (upd (upd (upd (upd (σ 0) 1 a2) 2 a3) 3 a4) 4 a5)) 1 (jfill 104 (σ 1) 0)) 8 (jfill 8 (σ 8) 0)) 9 (jfill 8 (σ 9) 0)) 10 (jfill 8 (σ 10) 0)) (upd64 τ 0 a6)) (pc2 := 65) kX2_58 (c_fill l 1 8 (by decide) (σ 10) 0) rfl rfl rfl rfl rfl rfl rfl rfl rfl rfl ?_
  refine hV.run 12 [] (ws' := wX2 11 (sC (sC (sC (sC (sC (sC σ 0 (upd (upd (upd (upd (upd (upd (σ 0) 1 a2) 2 a3) 3 a4) 4 a5) 12 (-1)) 15 0)) 1 (jfill 104 (σ 1) 0)) 2 (upd (σ 2) 4 0)) 8 (jfill 8 (σ 8) 0)) 9 (jfill 8 (σ 9) 0)) 10 (jfill 8 (σ 10) 0)) (upd64 τ 0 a6)) (pc' := 86) (ls' := [(8, .int 0), (0, .ref 0), (1, .ref 11), (2, .int a2), (3, .int a3), (4, .int a4), (5, .int a5), (6, .long a6)]) (st' := []) (ps := []) rfl trivial ?_
  refine hV.pick [1, 3, 0] (ls' := [(0, .ref 0), (2, .int a2), (8, .int 0)]) rfl ?_
  exact p_X2_begin_L86 hV n res hP n (sC (sC (sC (sC (sC (sC σ 0 (upd (upd (upd (upd (upd (upd (σ 0) 1 a2) 2 a3) 3 a4) 4 a5) 12 (-1)) 15 0)) 1 (jfill 104 (σ 1) 0)) 2 (upd (σ 2) 4 0)) 8 (jfill 8 (σ 8) 0)) 9 (jfill 8 (σ 9) 0)) 10 (jfill 8 (σ 10) 0)) (upd64 τ 0 a6) a2 0 h

def X2_hasRoom (n : Nat) (σ : am_M) (a1 : Int32) : Option Bool := (X6_sentBetween n (am_sub σ 2) a1 (X2_get σ a1 10)).bind (fun q1 => if (σ 0 2) ≤ q1 then (some false) else (some true))
set_option maxRecDepth 100000 in
theorem c_X2_hasRoom (l : Launch) (n : Nat) (σ : am_M) (τ : Nat → Int64) (a1 : Int32) (res : Bool) (h : X2_hasRoom n σ a1 = some res) : am_Con l yX2_hasRoom cX2_hasRoom 2 (some .boolean) 4 [.ref 0, .int a1] (wX2 11 σ τ) (fun (r : Option Value) (w : am_W) => r = (some (.int (b2i res))) ∧ w = (wX2 11 σ τ)) := by
  refine am_met (own := RX2) (cd := am_cdT' tX2_hasRoom) (rf := am_rfL rfX2) (ini := false) (by decide +kernel) rfl (by decide) dX2_hasRoom rfX2_ok (Nat.le_of_ble_eq_true rfl) ?_
  intro V hV
  have hP : (fun (r : Option Value) (w : am_W) => r = (some (.int (b2i res))) ∧ w = (wX2 11 σ τ)) (some (.int (b2i res))) (wX2 11 σ τ) := ⟨rfl, rfl⟩
  show V (wX2 11 σ τ) 0 [(0, .ref 0), (1, .int a1)] []
  unfold X2_hasRoom at h
  refine hV.run 6 [] (ws' := wX2 11 σ τ) (pc' := 9) (ls' := [(0, .ref 0), (1, .int a1)]) (st' := [.int 10, .int a1, .ref 0, .int a1, .ref 2]) (ps := []) rfl trivial ?_
  refine hV.cVi (as := [.int a1, .int 10]) (js := [0, 1, 2, 3, 4, 5, 6, 7, 8, 9, 10, 11, 12, 13, 14, 15, 16, 17, 18]) (rest := [.int a1, .ref 2]) (st := [.int 10, .int a1, .ref 0, .int a1, .ref 2]) (ws2 := wX2 11 σ τ) (pc2 := 12) kX2_81 (c_X2_get l σ τ a1 10) rfl rfl rfl rfl rfl rfl rfl rfl rfl rfl rfl rfl ?_
  obtain ⟨q1, hq1, h⟩ := am_bind h
  refine hV.cVi (as := [.int a1, .int (X2_get σ a1 10)]) (js := [2, 3, 4, 5, 6]) (rest := []) (st := [.int (X2_get σ a1 10), .int a1, .ref 2]) (ws2 := wX2 11 σ τ) (pc2 := 15) kX2_160 (c_X6_sentBetween l n (am_sub σ 2) a1 (X2_get σ a1 10) q1 hq1) rfl rfl rfl rfl rfl rfl rfl rfl rfl rfl rfl rfl ?_
  by_cases c2 : (σ 0 2) ≤ q1
  · rw [if_pos c2] at h
    refine hV.run 4 [1] (ws' := wX2 11 σ τ) (pc' := 27) (ls' := [(0, .ref 0), (1, .int a1)]) (st' := [.int 0]) (ps := [(σ 0 2) ≤ q1]) rfl ⟨c2, trivial⟩ ?_
    cases h
    exact hV.rz rfl rfl rfl (Or.inl rfl) hP
  · rw [if_neg c2] at h
    refine hV.run 5 [0] (ws' := wX2 11 σ τ) (pc' := 27) (ls' := [(0, .ref 0), (1, .int a1)]) (st' := [.int 1]) (ps := [¬ (σ 0 2) ≤ q1]) rfl ⟨c2, trivial⟩ ?_
    cases h
    exact hV.rz rfl rfl rfl (Or.inr rfl) hP

def X2_canMeet_J61 (n : Nat) (σ : am_M) (l1 : Int32) (l2 : Int32) : Option Bool := (X6_first n (am_sub σ 2) l1 l2 (X2_get σ l1 11)).bind (fun q1 => if q1 = (-1) then (some true) else (some false))
set_option maxRecDepth 100000 in
theorem p_X2_canMeet_J61 {l : Launch} {Post : Option Value → am_W → Prop} {V : am_VT} (hV : am_B l RX2 false 4 (am_cdT' tX2_canMeet) (am_rfL rfX2) (some .boolean) Post 19 V) (n : Nat) (σ : am_M) (τ : Nat → Int64) (res : Bool) (hP : Post (some (.int (b2i res))) (wX2 11 σ τ)) (l1 : Int32) (l2 : Int32) (h : X2_canMeet_J61 n σ l1 l2 = some res) : V (wX2 11 σ τ) 61 [(0, .ref 0), (1, .int l1), (2, .int l2)] [] := by
  unfold X2_canMeet_J61 at h
  refine hV.run 7 [] (ws' := wX2 11 σ τ) (pc' := 71) (ls' := [(0, .ref 0), (1, .int l1), (2, .int l2)]) (st' := [.int 11, .int l1, .ref 0, .int l2, .int l1, .ref 2]) (ps := []) rfl trivial ?_
  refine hV.cVi (as := [.int l1, .int 11]) (js := [0, 1, 2, 3, 4, 5, 6, 7, 8, 9, 10, 11, 12, 13, 14, 15, 16, 17, 18]) (rest := [.int l2, .int l1, .ref 2]) (st := [.int 11, .int l1, .ref 0, .int l2, .int l1, .ref 2]) (ws2 := wX2 11 σ τ) (pc2 := 74) kX2_81 (c_X2_get l σ τ l1 11) rfl rfl rfl rfl rfl rfl rfl rfl rfl rfl rfl rfl ?_
  obtain ⟨q1, hq1, h⟩ := am_bind h
  refine hV.cVi (as := [.int l1, .int l2, .int (X2_get σ l1 11)]) (js := [2, 3, 4, 5, 6]) (rest := []) (st := [.int (X2_get σ l1 11), .int l2, .int l1, .ref 2]) (ws2 := wX2 11 σ τ) (pc2 := 77) kX2_151 (c_X6_first l n (am_sub σ 2) l1 l2 (X2_get σ l1 11) q1 hq1) rfl rfl rfl rfl rfl rfl rfl rfl rfl rfl rfl rfl ?_
  by_cases c2 : q1 = (-1)
  · rw [if_pos c2] at h
    refine hV.run 4 [0] (ws' := wX2 11 σ τ) (pc' := 86) (ls' := [(0, .ref 0), (1, .int l1), (2, .int l2)]) (st' := [.int 1]) (ps := [q1 = (-1)]) rfl ⟨c2, trivial⟩ ?_
    cases h
    exact hV.rz rfl rfl rfl (Or.inr rfl) hP
  · rw [if_neg c2] at h
    refine hV.run 3 [1] (ws' := wX2 11 σ τ) (pc' := 86) (ls' := [(0, .ref 0), (1, .int l1), (2, .int l2)]) (st' := [.int 0]) (ps := [¬ q1 = (-1)]) rfl ⟨c2, trivial⟩ ?_
    cases h
    exact hV.rz rfl rfl rfl (Or.inl rfl) hP
def X2_canMeet_J24 (n : Nat) (σ : am_M) (l1 : Int32) (l2 : Int32) (l3 : Int32) : Option Bool := if (X2_get σ l2 11) = (X2_get σ l1 11) then (if l3 = 3 then (if (X2_get σ l2 10) = l1 then (X2_canMeet_J61 n σ l1 l2) else (some false)) else (X2_canMeet_J61 n σ l1 l2)) else (some false)
set_option maxRecDepth 100000 in
theorem p_X2_canMeet_J24 {l : Launch} {Post : Option Value → am_W → Prop} {V : am_VT} (hV : am_B l RX2 false 4 (am_cdT' tX2_canMeet) (am_rfL rfX2) (some .boolean) Post 19 V) (n : Nat) (σ : am_M) (τ : Nat → Int64) (res : Bool) (hP : Post (some (.int (b2i res))) (wX2 11 σ τ)) (l1 : Int32) (l2 : Int32) (l3 : Int32) (h : X2_canMeet_J24 n σ l1 l2 l3 = some res) : V (wX2 11 σ τ) 24 [(0, .ref 0), (1, .int l1), (2, .int l2), (3, .int l3)] [] := by
  unfold X2_canMeet_J24 at h
  refine hV.run 3 [] (ws' := wX2 11 σ τ) (pc' := 28) (ls' := [(0, .ref 0), (1, .int l1), (2, .int l2), (3, .int l3)]) (st' := [.int 11, .int l2, .ref 0]) (ps := []) rfl trivial ?_
  refine hV.cVi (as := [.int l2, .int 11]) (js := [0, 1, 2, 3, 4, 5, 6, 7, 8, 9, 10, 11, 12, 13, 14, 15, 16, 17, 18]) (rest := []) (st := [.int 11, .int l2, .ref 0]) (ws2 := wX2 11 σ τ) (pc2 := 31) kX2_81 (c_X2_get l σ τ l2 11) rfl rfl rfl rfl rfl rfl rfl rfl rfl rfl rfl rfl ?_
  refine hV.run 3 [] (ws' := wX2 11 σ τ) (pc' := 35) (ls' := [(0, .ref 0), (1, .int l1), (2, .int l2), (3, .int l3)]) (st' := [.int 11, .int l1, .ref 0, .int (X2_get σ l2 11)]) (ps := []) rfl trivial ?_
  refine hV.cVi (as := [.int l1, .int 11]) (js := [0, 1, 2, 3, 4, 5, 6, 7, 8, 9, 10, 11, 12, 13, 14, 15, 16, 17, 18]) (rest := [.int (X2_get σ l2 11)]) (st := [.int 11, .int l1, .ref 0, .int (X2_get σ l2 11)]) (ws2 := wX2 11 σ τ) (pc2 := 38) kX2_81 (c_X2_get l σ τ l1 11) rfl rfl rfl rfl rfl rfl rfl rfl rfl rfl rfl rfl ?_
  by_cases c1 : (X2_get σ l2 11) = (X2_get σ l1 11)
  · rw [if_pos c1] at h
    by_cases c2 : l3 = 3
    · rw [if_pos c2] at h
      refine hV.run 7 [1, 0] (ws' := wX2 11 σ τ) (pc' := 52) (ls' := [(0, .ref 0), (1, .int l1), (2, .int l2), (3, .int l3)]) (st' := [.int 10, .int l2, .ref 0]) (ps := [(X2_get σ l2 11) = (X2_get σ l1 11), l3 = 3]) rfl ⟨c1, c2, trivial⟩ ?_
      refine hV.cVi (as := [.int l2, .int 10]) (js := [0, 1, 2, 3, 4, 5, 6, 7, 8, 9, 10, 11, 12, 13, 14, 15, 16, 17, 18]) (rest := []) (st := [.int 10, .int l2, .ref 0]) (ws2 := wX2 11 σ τ) (pc2 := 55) kX2_81 (c_X2_get l σ τ l2 10) rfl rfl rfl rfl rfl rfl rfl rfl rfl rfl rfl rfl ?_
      by_cases c3 : (X2_get σ l2 10) = l1
      · rw [if_pos c3] at h
        refine hV.run 2 [1] (ws' := wX2 11 σ τ) (pc' := 61) (ls' := [(0, .ref 0), (1, .int l1), (2, .int l2), (3, .int l3)]) (st' := []) (ps := [(X2_get σ l2 10) = l1]) rfl ⟨c3, trivial⟩ ?_
        refine hV.pick [0, 1, 2] (ls' := [(0, .ref 0), (1, .int l1), (2, .int l2)]) rfl ?_
        exact p_X2_canMeet_J61 hV n σ τ res hP l1 l2 h
      · rw [if_neg c3] at h
        refine hV.run 3 [0] (ws' := wX2 11 σ τ) (pc' := 60) (ls' := [(0, .ref 0), (1, .int l1), (2, .int l2), (3, .int l3)]) (st' := [.int 0]) (ps := [¬ (X2_get σ l2 10) = l1]) rfl ⟨c3, trivial⟩ ?_
        cases h
        exact hV.rz rfl rfl rfl (Or.inl rfl) hP
    · rw [if_neg c2] at h
      refine hV.run 4 [1, 1] (ws' := wX2 11 σ τ) (pc' := 61) (ls' := [(0, .ref 0), (1, .int l1), (2, .int l2), (3, .int l3)]) (st' := []) (ps := [(X2_get σ l2 11) = (X2_get σ l1 11), ¬ l3 = 3]) rfl ⟨c1, c2, trivial⟩ ?_
      refine hV.pick [0, 1, 2] (ls' := [(0, .ref 0), (1, .int l1), (2, .int l2)]) rfl ?_
      exact p_X2_canMeet_J61 hV n σ τ res hP l1 l2 h
  · rw [if_neg c1] at h
    refine hV.run 2 [0] (ws' := wX2 11 σ τ) (pc' := 42) (ls' := [(0, .ref 0), (1, .int l1), (2, .int l2), (3, .int l3)]) (st' := [.int 0]) (ps := [¬ (X2_get σ l2 11) = (X2_get σ l1 11)]) rfl ⟨c1, trivial⟩ ?_
    cases h
    exact hV.rz rfl rfl rfl (Or.inl rfl) hP
def X2_canMeet (n : Nat) (σ : am_M) (a1 : Int32) : Option Bool := if (X2_doing σ (X2_get σ a1 10)) = 3 then (X2_canMeet_J24 n σ a1 (X2_get σ a1 10) (X2_doing σ (X2_get σ a1 10))) else (if (X2_doing σ (X2_get σ a1 10)) = 4 then (X2_canMeet_J24 n σ a1 (X2_get σ a1 10) (X2_doing σ (X2_get σ a1 10))) else (some false))
set_option maxRecDepth 100000 in
theorem c_X2_canMeet (l : Launch) (n : Nat) (σ : am_M) (τ : Nat → Int64) (a1 : Int32) (res : Bool) (h : X2_canMeet n σ a1 = some res) : am_Con l yX2_canMeet cX2_canMeet 4 (some .boolean) 4 [.ref 0, .int a1] (wX2 11 σ τ) (fun (r : Option Value) (w : am_W) => r = (some (.int (b2i res))) ∧ w = (wX2 11 σ τ)) := by
  refine am_met (own := RX2) (cd := am_cdT' tX2_canMeet) (rf := am_rfL rfX2) (ini := false) (by decide +kernel) rfl (by decide) dX2_canMeet rfX2_ok (Nat.le_of_ble_eq_true rfl) ?_
  intro V hV
  have hP : (fun (r : Option Value) (w : am_W) => r = (some (.int (b2i res))) ∧ w = (wX2 11 σ τ)) (some (.int (b2i res))) (wX2 11 σ τ) := ⟨rfl, rfl⟩
  show V (wX2 11 σ τ) 0 [(0, .ref 0), (1, .int a1)] []
  unfold X2_canMeet at h
  refine hV.run 3 [] (ws' := wX2 11 σ τ) (pc' := 4) (ls' := [(0, .ref 0), (1, .int a1)]) (st' := [.int 10, .int a1, .ref 0]) (ps := []) rfl trivial ?_
  refine hV.cVi (as := [.int a1, .int 10]) (js := [0, 1, 2, 3, 4, 5, 6, 7, 8, 9, 10, 11, 12, 13, 14, 15, 16, 17, 18]) (rest := []) (st := [.int 10, .int a1, .ref 0]) (ws2 := wX2 11 σ τ) (pc2 := 7) kX2_81 (c_X2_get l σ τ a1 10) rfl rfl rfl rfl rfl rfl rfl rfl rfl rfl rfl rfl ?_
  refine hV.run 3 [] (ws' := wX2 11 σ τ) (pc' := 10) (ls' := [(2, .int (X2_get σ a1 10)), (0, .ref 0), (1, .int a1)]) (st' := [.int (X2_get σ a1 10), .ref 0]) (ps := []) rfl trivial ?_
  refine hV.cVi (as := [.int (X2_get σ a1 10)]) (js := [0, 1, 2, 3, 4, 5, 6, 7, 8, 9, 10, 11, 12, 13, 14, 15, 16, 17, 18]) (rest := []) (st := [.int (X2_get σ a1 10), .ref 0]) (ws2 := wX2 11 σ τ) (pc2 := 13) kX2_142 (c_X2_doing l σ τ (X2_get σ a1 10)) rfl rfl rfl rfl rfl rfl rfl rfl rfl rfl rfl rfl ?_
  by_cases c1 : (X2_doing σ (X2_get σ a1 10)) = 3
  · rw [if_pos c1] at h
    refine hV.run 4 [1] (ws' := wX2 11 σ τ) (pc' := 24) (ls' := [(3, .int (X2_doing σ (X2_get σ a1 10))), (2, .int (X2_get σ a1 10)), (0, .ref 0), (1, .int a1)]) (st' := []) (ps := [(X2_doing σ (X2_get σ a1 10)) = 3]) rfl ⟨c1, trivial⟩ ?_
    refine hV.pick [2, 3, 1, 0] (ls' := [(0, .ref 0), (1, .int a1), (2, .int (X2_get σ a1 10)), (3, .int (X2_doing σ (X2_get σ a1 10)))]) rfl ?_
    exact p_X2_canMeet_J24 hV n σ τ res hP a1 (X2_get σ a1 10) (X2_doing σ (X2_get σ a1 10)) h
  · rw [if_neg c1] at h
    by_cases c2 : (X2_doing σ (X2_get σ a1 10)) = 4
    · rw [if_pos c2] at h
      refine hV.run 7 [0, 0] (ws' := wX2 11 σ τ) (pc' := 24) (ls' := [(3, .int (X2_doing σ (X2_get σ a1 10))), (2, .int (X2_get σ a1 10)), (0, .ref 0), (1, .int a1)]) (st' := []) (ps := [¬ (X2_doing σ (X2_get σ a1 10)) = 3, (X2_doing σ (X2_get σ a1 10)) = 4]) rfl ⟨c1, c2, trivial⟩ ?_
      refine hV.pick [2, 3, 1, 0] (ls' := [(0, .ref 0), (1, .int a1), (2, .int (X2_get σ a1 10)), (3, .int (X2_doing σ (X2_get σ a1 10)))]) rfl ?_
      exact p_X2_canMeet_J24 hV n σ τ res hP a1 (X2_get σ a1 10) (X2_doing σ (X2_get σ a1 10)) h
    · rw [if_neg c2] at h
      refine hV.run 8 [0, 1] (ws' := wX2 11 σ τ) (pc' := 42) (ls' := [(3, .int (X2_doing σ (X2_get σ a1 10))), (2, .int (X2_get σ a1 10)), (0, .ref 0), (1, .int a1)]) (st' := [.int 0]) (ps := [¬ (X2_doing σ (X2_get σ a1 10)) = 3, ¬ (X2_doing σ (X2_get σ a1 10)) = 4]) rfl ⟨c1, c2, trivial⟩ ?_
      cases h
      exact hV.rz rfl rfl rfl (Or.inl rfl) hP

def X2_meetsAny_J28 (n : Nat) (σ : am_M) (l1 : Int32) (s0 : Int32) : Option Bool := if s0 = 0 then (some false) else (if (X2_doing σ (X2_get σ l1 10)) = 4 then (some true) else (some false))
set_option maxRecDepth 100000 in
theorem p_X2_meetsAny_J28 {l : Launch} {Post : Option Value → am_W → Prop} {V : am_VT} (hV : am_B l RX2 false 5 (am_cdT' tX2_meetsAny) (am_rfL rfX2) (some .boolean) Post 19 V) (n : Nat) (σ : am_M) (τ : Nat → Int64) (res : Bool) (hP : Post (some (.int (b2i res))) (wX2 11 σ τ)) (l1 : Int32) (s0 : Int32) (h : X2_meetsAny_J28 n σ l1 s0 = some res) : V (wX2 11 σ τ) 28 [(0, .ref 0), (1, .int l1)] [.int s0] := by
  unfold X2_meetsAny_J28 at h
  by_cases c1 : s0 = 0
  · rw [if_pos c1] at h
    refine hV.run 4 [1] (ws' := wX2 11 σ τ) (pc' := 53) (ls' := [(3, .int s0), (0, .ref 0), (1, .int l1)]) (st' := [.int 0]) (ps := [s0 = 0]) rfl ⟨c1, trivial⟩ ?_
    cases h
    exact hV.rz rfl rfl rfl (Or.inl rfl) hP
  · rw [if_neg c1] at h
    refine hV.run 7 [0] (ws' := wX2 11 σ τ) (pc' := 38) (ls' := [(3, .int s0), (0, .ref 0), (1, .int l1)]) (st' := [.int 10, .int l1, .ref 0, .ref 0]) (ps := [¬ s0 = 0]) rfl ⟨c1, trivial⟩ ?_
    refine hV.cVi (as := [.int l1, .int 10]) (js := [0, 1, 2, 3, 4, 5, 6, 7, 8, 9, 10, 11, 12, 13, 14, 15, 16, 17, 18]) (rest := [.ref 0]) (st := [.int 10, .int l1, .ref 0, .ref 0]) (ws2 := wX2 11 σ τ) (pc2 := 41) kX2_81 (c_X2_get l σ τ l1 10) rfl rfl rfl rfl rfl rfl rfl rfl rfl rfl rfl rfl ?_
    refine hV.cVi (as := [.int (X2_get σ l1 10)]) (js := [0, 1, 2, 3, 4, 5, 6, 7, 8, 9, 10, 11, 12, 13, 14, 15, 16, 17, 18]) (rest := []) (st := [.int (X2_get σ l1 10), .ref 0]) (ws2 := wX2 11 σ τ) (pc2 := 44) kX2_142 (c_X2_doing l σ τ (X2_get σ l1 10)) rfl rfl rfl rfl rfl rfl rfl rfl rfl rfl rfl rfl ?_
    by_cases c2 : (X2_doing σ (X2_get σ l1 10)) = 4
    · rw [if_pos c2] at h
      refine hV.run 4 [0] (ws' := wX2 11 σ τ) (pc' := 53) (ls' := [(3, .int s0), (0, .ref 0), (1, .int l1)]) (st' := [.int 1]) (ps := [(X2_doing σ (X2_get σ l1 10)) = 4]) rfl ⟨c2, trivial⟩ ?_
      cases h
      exact hV.rz rfl rfl rfl (Or.inr rfl) hP
    · rw [if_neg c2] at h
      refine hV.run 3 [1] (ws' := wX2 11 σ τ) (pc' := 53) (ls' := [(3, .int s0), (0, .ref 0), (1, .int l1)]) (st' := [.int 0]) (ps := [¬ (X2_doing σ (X2_get σ l1 10)) = 4]) rfl ⟨c2, trivial⟩ ?_
      cases h
      exact hV.rz rfl rfl rfl (Or.inl rfl) hP
def X2_meetsAny_J23 (n : Nat) (σ : am_M) (l1 : Int32) : Option Bool := X2_meetsAny_J28 n σ l1 1
set_option maxRecDepth 100000 in
theorem p_X2_meetsAny_J23 {l : Launch} {Post : Option Value → am_W → Prop} {V : am_VT} (hV : am_B l RX2 false 5 (am_cdT' tX2_meetsAny) (am_rfL rfX2) (some .boolean) Post 19 V) (n : Nat) (σ : am_M) (τ : Nat → Int64) (res : Bool) (hP : Post (some (.int (b2i res))) (wX2 11 σ τ)) (l1 : Int32) (h : X2_meetsAny_J23 n σ l1 = some res) : V (wX2 11 σ τ) 23 [(0, .ref 0), (1, .int l1)] [] := by
  unfold X2_meetsAny_J23 at h
  refine hV.run 2 [] (ws' := wX2 11 σ τ) (pc' := 28) (ls' := [(0, .ref 0), (1, .int l1)]) (st' := [.int 1]) (ps := []) rfl trivial ?_
  exact p_X2_meetsAny_J28 hV n σ τ res hP l1 1 h
def X2_meetsAny_J27 (n : Nat) (σ : am_M) (l1 : Int32) : Option Bool := X2_meetsAny_J28 n σ l1 0
set_option maxRecDepth 100000 in
theorem p_X2_meetsAny_J27 {l : Launch} {Post : Option Value → am_W → Prop} {V : am_VT} (hV : am_B l RX2 false 5 (am_cdT' tX2_meetsAny) (am_rfL rfX2) (some .boolean) Post 19 V) (n : Nat) (σ : am_M) (τ : Nat → Int64) (res : Bool) (hP : Post (some (.int (b2i res))) (wX2 11 σ τ)) (l1 : Int32) (h : X2_meetsAny_J27 n σ l1 = some res) : V (wX2 11 σ τ) 27 [(0, .ref 0), (1, .int l1)] [] := by
  unfold X2_meetsAny_J27 at h
  refine hV.run 1 [] (ws' := wX2 11 σ τ) (pc' := 28) (ls' := [(0, .ref 0), (1, .int l1)]) (st' := [.int 0]) (ps := []) rfl trivial ?_
  exact p_X2_meetsAny_J28 hV n σ τ res hP l1 0 h
def X2_meetsAny (n : Nat) (σ : am_M) (a1 : Int32) : Option Bool := if (X2_doing σ a1) = 1 then (X2_meetsAny_J23 n σ a1) else (if (X2_doing σ a1) = 0 then (X2_hasRoom n σ a1).bind (fun q3 => if q3 = true then (X2_meetsAny_J27 n σ a1) else (X2_meetsAny_J23 n σ a1)) else (X2_meetsAny_J27 n σ a1))
set_option maxRecDepth 100000 in
theorem c_X2_meetsAny (l : Launch) (n : Nat) (σ : am_M) (τ : Nat → Int64) (a1 : Int32) (res : Bool) (h : X2_meetsAny n σ a1 = some res) : am_Con l yX2_meetsAny cX2_meetsAny 4 (some .boolean) 5 [.ref 0, .int a1] (wX2 11 σ τ) (fun (r : Option Value) (w : am_W) => r = (some (.int (b2i res))) ∧ w = (wX2 11 σ τ)) := by
  refine am_met (own := RX2) (cd := am_cdT' tX2_meetsAny) (rf := am_rfL rfX2) (ini := false) (by decide +kernel) rfl (by decide) dX2_meetsAny rfX2_ok (Nat.le_of_ble_eq_true rfl) ?_
  intro V hV
  have hP : (fun (r : Option Value) (w : am_W) => r = (some (.int (b2i res))) ∧ w = (wX2 11 σ τ)) (some (.int (b2i res))) (wX2 11 σ τ) := ⟨rfl, rfl⟩
  show V (wX2 11 σ τ) 0 [(0, .ref 0), (1, .int a1)] []
  unfold X2_meetsAny at h
  refine hV.run 2 [] (ws' := wX2 11 σ τ) (pc' := 2) (ls' := [(0, .ref 0), (1, .int a1)]) (st' := [.int a1, .ref 0]) (ps := []) rfl trivial ?_
  refine hV.cVi (as := [.int a1]) (js := [0, 1, 2, 3, 4, 5, 6, 7, 8, 9, 10, 11, 12, 13, 14, 15, 16, 17, 18]) (rest := []) (st := [.int a1, .ref 0]) (ws2 := wX2 11 σ τ) (pc2 := 5) kX2_142 (c_X2_doing l σ τ a1) rfl rfl rfl rfl rfl rfl rfl rfl rfl rfl rfl rfl ?_
  by_cases c1 : (X2_doing σ a1) = 1
  · rw [if_pos c1] at h
    refine hV.run 4 [1] (ws' := wX2 11 σ τ) (pc' := 23) (ls' := [(2, .int (X2_doing σ a1)), (0, .ref 0), (1, .int a1)]) (st' := []) (ps := [(X2_doing σ a1) = 1]) rfl ⟨c1, trivial⟩ ?_
    refine hV.pick [1, 2] (ls' := [(0, .ref 0), (1, .int a1)]) rfl ?_
    exact p_X2_meetsAny_J23 hV n σ τ res hP a1 h
  · rw [if_neg c1] at h
    by_cases c2 : (X2_doing σ a1) = 0
    · rw [if_pos c2] at h
      refine hV.run 8 [0, 0] (ws' := wX2 11 σ τ) (pc' := 17) (ls' := [(2, .int (X2_doing σ a1)), (0, .ref 0), (1, .int a1)]) (st' := [.int a1, .ref 0]) (ps := [¬ (X2_doing σ a1) = 1, (X2_doing σ a1) = 0]) rfl ⟨c1, c2, trivial⟩ ?_
      obtain ⟨q3, hq3, h⟩ := am_bind h
      refine hV.cVi (as := [.int a1]) (js := [0, 1, 2, 3, 4, 5, 6, 7, 8, 9, 10, 11, 12, 13, 14, 15, 16, 17, 18]) (rest := []) (st := [.int a1, .ref 0]) (ws2 := wX2 11 σ τ) (pc2 := 20) kX2_145 (c_X2_hasRoom l n σ τ a1 q3 hq3) rfl rfl rfl rfl rfl rfl rfl rfl rfl rfl rfl rfl ?_
      by_cases c4 : q3 = true
      · rw [if_pos c4] at h
        refine hV.run 1 [1] (ws' := wX2 11 σ τ) (pc' := 27) (ls' := [(2, .int (X2_doing σ a1)), (0, .ref 0), (1, .int a1)]) (st' := []) (ps := [¬ (b2i q3) = 0]) rfl ⟨(b2i_t c4), trivial⟩ ?_
        refine hV.pick [1, 2] (ls' := [(0, .ref 0), (1, .int a1)]) rfl ?_
        exact p_X2_meetsAny_J27 hV n σ τ res hP a1 h
      · rw [if_neg c4] at h
        refine hV.run 1 [0] (ws' := wX2 11 σ τ) (pc' := 23) (ls' := [(2, .int (X2_doing σ a1)), (0, .ref 0), (1, .int a1)]) (st' := []) (ps := [(b2i q3) = 0]) rfl ⟨(b2i_f c4), trivial⟩ ?_
        refine hV.pick [1, 2] (ls' := [(0, .ref 0), (1, .int a1)]) rfl ?_
        exact p_X2_meetsAny_J23 hV n σ τ res hP a1 h
    · rw [if_neg c2] at h
      refine hV.run 6 [0, 1] (ws' := wX2 11 σ τ) (pc' := 27) (ls' := [(2, .int (X2_doing σ a1)), (0, .ref 0), (1, .int a1)]) (st' := []) (ps := [¬ (X2_doing σ a1) = 1, ¬ (X2_doing σ a1) = 0]) rfl ⟨c1, c2, trivial⟩ ?_
      refine hV.pick [1, 2] (ls' := [(0, .ref 0), (1, .int a1)]) rfl ?_
      exact p_X2_meetsAny_J27 hV n σ τ res hP a1 h

def X2_leastSource_B2 (n : Nat) (σ : am_M) (kont2 : Int32 → Int32 → Option Int32) (l1 : Int32) (l2 : Int32) : Option Int32 := if (σ 0 1) ≤ l2 then (some (-1)) else (X6_first n (am_sub σ 2) l2 l1 (X2_get σ l1 11)).bind (fun q2 => if q2 = (-1) then (kont2 l1 (l2 + 1)) else (some l2))
def X2_leastSource_L2 (n : Nat) (σ : am_M) : Nat → Int32 → Int32 → Option Int32
 | 0 => fun _ _ => none
 | k + 1 => fun l1 l2 => X2_leastSource_B2 n σ (X2_leastSource_L2 n σ k) l1 l2
set_option maxRecDepth 100000 in
theorem p_X2_leastSource_B2 {l : Launch} {Post : Option Value → am_W → Prop} {V : am_VT} (hV : am_B l RX2 false 4 (am_cdT' tX2_leastSource) (am_rfL rfX2) (some .int) Post 19 V) (n : Nat) (σ : am_M) (τ : Nat → Int64) (res : Int32) (hP : Post (some (.int res)) (wX2 11 σ τ)) (kont2 : Int32 → Int32 → Option Int32) (hk2 : ∀ (l1 : Int32) (l2 : Int32), kont2 l1 l2 = some res → V (wX2 11 σ τ) 2 [(0, .ref 0), (1, .int l1), (2, .int l2)] []) (l1 : Int32) (l2 : Int32) (h : X2_leastSource_B2 n σ kont2 l1 l2 = some res) : V (wX2 11 σ τ) 2 [(0, .ref 0), (1, .int l1), (2, .int l2)] [] := by
  unfold X2_leastSource_B2 at h
  by_cases c1 : (σ 0 1) ≤ l2
  · rw [if_pos c1] at h
    refine hV.run 5 [1] (ws' := wX2 11 σ τ) (pc' := 39) (ls' := [(0, .ref 0), (1, .int l1), (2, .int l2)]) (st' := [.int (-1)]) (ps := [(σ 0 1) ≤ l2]) rfl ⟨c1, trivial⟩ ?_
    cases h
    exact hV.ri rfl rfl rfl hP
  · rw [if_neg c1] at h
    refine hV.run 11 [0] (ws' := wX2 11 σ τ) (pc' := 20) (ls' := [(0, .ref 0), (1, .int l1), (2, .int l2)]) (st' := [.int 11, .int l1, .ref 0, .int l1, .int l2, .ref 2]) (ps := [¬ (σ 0 1) ≤ l2]) rfl ⟨c1, trivial⟩ ?_
    refine hV.cVi (as := [.int l1, .int 11]) (js := [0, 1, 2, 3, 4, 5, 6, 7, 8, 9, 10, 11, 12, 13, 14, 15, 16, 17, 18]) (rest := [.int l1, .int l2, .ref 2]) (st := [.int 11, .int l1, .ref 0, .int l1, .int l2, .ref 2]) (ws2 := wX2 11 σ τ) (pc2 := 23) kX2_81 (c_X2_get l σ τ l1 11) rfl rfl rfl rfl rfl rfl rfl rfl rfl rfl rfl rfl ?_
    obtain ⟨q2, hq2, h⟩ := am_bind h
    refine hV.cVi (as := [.int l2, .int l1, .int (X2_get σ l1 11)]) (js := [2, 3, 4, 5, 6]) (rest := []) (st := [.int (X2_get σ l1 11), .int l1, .int l2, .ref 2]) (ws2 := wX2 11 σ τ) (pc2 := 26) kX2_151 (c_X6_first l n (am_sub σ 2) l2 l1 (X2_get σ l1 11) q2 hq2) rfl rfl rfl rfl rfl rfl rfl rfl rfl rfl rfl rfl ?_
    by_cases c3 : q2 = (-1)
    · rw [if_pos c3] at h
      refine hV.run 4 [1] (ws' := wX2 11 σ τ) (pc' := 2) (ls' := [(2, .int (l2 + 1)), (0, .ref 0), (1, .int l1)]) (st' := []) (ps := [q2 = (-1)]) rfl ⟨c3, trivial⟩ ?_
      refine hV.pick [1, 2, 0] (ls' := [(0, .ref 0), (1, .int l1), (2, .int (l2 + 1))]) rfl ?_
      exact hk2 l1 (l2 + 1) h
    · rw [if_neg c3] at h
      refine hV.run 3 [0] (ws' := wX2 11 σ τ) (pc' := 31) (ls' := [(0, .ref 0), (1, .int l1), (2, .int l2)]) (st' := [.int l2]) (ps := [¬ q2 = (-1)]) rfl ⟨c3, trivial⟩ ?_
      cases h
      exact hV.ri rfl rfl rfl hP
theorem p_X2_leastSource_L2 {l : Launch} {Post : Option Value → am_W → Prop} {V : am_VT} (hV : am_B l RX2 false 4 (am_cdT' tX2_leastSource) (am_rfL rfX2) (some .int) Post 19 V) (n : Nat) (σ : am_M) (τ : Nat → Int64) (res : Int32) (hP : Post (some (.int res)) (wX2 11 σ τ)) : ∀ (k : Nat) (l1 : Int32) (l2 : Int32) (h : X2_leastSource_L2 n σ k l1 l2 = some res), V (wX2 11 σ τ) 2 [(0, .ref 0), (1, .int l1), (2, .int l2)] [] := by
  intro k
  induction k with
  | zero => intro l1 l2 h; cases h
  | succ k ih => intro l1 l2 h; exact p_X2_leastSource_B2 hV n σ τ res hP _ ih l1 l2 h
def X2_leastSource (n : Nat) (σ : am_M) (a1 : Int32) : Option Int32 := X2_leastSource_L2 n σ n a1 0
set_option maxRecDepth 100000 in
theorem c_X2_leastSource (l : Launch) (n : Nat) (σ : am_M) (τ : Nat → Int64) (a1 : Int32) (res : Int32) (h : X2_leastSource n σ a1 = some res) : am_Con l yX2_leastSource cX2_leastSource 3 (some .int) 4 [.ref 0, .int a1] (wX2 11 σ τ) (fun (r : Option Value) (w : am_W) => r = (some (.int res)) ∧ w = (wX2 11 σ τ)) := by
  refine am_met (own := RX2) (cd := am_cdT' tX2_leastSource) (rf := am_rfL rfX2) (ini := false) (by decide +kernel) rfl (by decide) dX2_leastSource rfX2_ok (Nat.le_of_ble_eq_true rfl) ?_
  intro V hV
  have hP : (fun (r : Option Value) (w : am_W) => r = (some (.int res)) ∧ w = (wX2 11 σ τ)) (some (.int res)) (wX2 11 σ τ) := ⟨rfl, rfl⟩
  show V (wX2 11 σ τ) 0 [(0, .ref 0), (1, .int a1)] []
  unfold X2_leastSource at h
  refine hV.run 2 [] (ws' := wX2 11 σ τ) (pc' := 2) (ls' := [(2, .int 0), (0, .ref 0), (1, .int a1)]) (st' := []) (ps := []) rfl trivial ?_
  refine hV.pick [1, 2, 0] (ls' := [(0, .ref 0), (1, .int a1), (2, .int 0)]) rfl ?_
  exact p_X2_leastSource_L2 hV n σ τ res hP n a1 0 h

def X2_notDoing_J27 (n : Nat) (σ : am_M) (kont4 : Int32 → Int32 → Int32 → Option Int32) (l1 : Int32) (l2 : Int32) (l3 : Int32) : Option Int32 := kont4 l1 l2 (l3 + 1)
set_option maxRecDepth 100000 in
theorem p_X2_notDoing_J27 {l : Launch} {Post : Option Value → am_W → Prop} {V : am_VT} (hV : am_B l RX2 false 4 (am_cdT' tX2_notDoing) (am_rfL rfX2) (some .int) Post 19 V) (n : Nat) (σ : am_M) (τ : Nat → Int64) (res : Int32) (hP : Post (some (.int res)) (wX2 11 σ τ)) (kont4 : Int32 → Int32 → Int32 → Option Int32) (hk4 : ∀ (l1 : Int32) (l2 : Int32) (l3 : Int32), kont4 l1 l2 l3 = some res → V (wX2 11 σ τ) 4 [(0, .ref 0), (1, .int l1), (2, .int l2), (3, .int l3)] []) (l1 : Int32) (l2 : Int32) (l3 : Int32) (h : X2_notDoing_J27 n σ kont4 l1 l2 l3 = some res) : V (wX2 11 σ τ) 27 [(0, .ref 0), (1, .int l1), (2, .int l2), (3, .int l3)] [] := by
  unfold X2_notDoing_J27 at h
  refine hV.run 2 [] (ws' := wX2 11 σ τ) (pc' := 4) (ls' := [(3, .int (l3 + 1)), (0, .ref 0), (1, .int l1), (2, .int l2)]) (st' := []) (ps := []) rfl trivial ?_
  refine hV.pick [1, 2, 3, 0] (ls' := [(0, .ref 0), (1, .int l1), (2, .int l2), (3, .int (l3 + 1))]) rfl ?_
  exact hk4 l1 l2 (l3 + 1) h
def X2_notDoing_B4 (n : Nat) (σ : am_M) (kont4 : Int32 → Int32 → Int32 → Option Int32) (l1 : Int32) (l2 : Int32) (l3 : Int32) : Option Int32 := if (σ 0 1) ≤ l3 then (some l2) else (if (X2_doing σ l3) = l1 then (X2_notDoing_J27 n σ kont4 l1 l2 l3) else (X2_notDoing_J27 n σ kont4 l1 (l2 ||| (1 <<< (l3 &&& 31))) l3))
def X2_notDoing_L4 (n : Nat) (σ : am_M) : Nat → Int32 → Int32 → Int32 → Option Int32
 | 0 => fun _ _ _ => none
 | k + 1 => fun l1 l2 l3 => X2_notDoing_B4 n σ (X2_notDoing_L4 n σ k) l1 l2 l3
set_option maxRecDepth 100000 in
theorem p_X2_notDoing_B4 {l : Launch} {Post : Option Value → am_W → Prop} {V : am_VT} (hV : am_B l RX2 false 4 (am_cdT' tX2_notDoing) (am_rfL rfX2) (some .int) Post 19 V) (n : Nat) (σ : am_M) (τ : Nat → Int64) (res : Int32) (hP : Post (some (.int res)) (wX2 11 σ τ)) (kont4 : Int32 → Int32 → Int32 → Option Int32) (hk4 : ∀ (l1 : Int32) (l2 : Int32) (l3 : Int32), kont4 l1 l2 l3 = some res → V (wX2 11 σ τ) 4 [(0, .ref 0), (1, .int l1), (2, .int l2), (3, .int l3)] []) (l1 : Int32) (l2 : Int32) (l3 : Int32) (h : X2_notDoing_B4 n σ kont4 l1 l2 l3 = some res) : V (wX2 11 σ τ) 4 [(0, .ref 0), (1, .int l1), (2, .int l2), (3, .int l3)] [] := by
  unfold X2_notDoing_B4 at h
  by_cases c1 : (σ 0 1) ≤ l3
  · rw [if_pos c1] at h
    refine hV.run 5 [1] (ws' := wX2 11 σ τ) (pc' := 34) (ls' := [(0, .ref 0), (1, .int l1), (2, .int l2), (3, .int l3)]) (st' := [.int l2]) (ps := [(σ 0 1) ≤ l3]) rfl ⟨c1, trivial⟩ ?_
    cases h
    exact hV.ri rfl rfl rfl hP
  · rw [if_neg c1] at h
    refine hV.run 6 [0] (ws' := wX2 11 σ τ) (pc' := 14) (ls' := [(0, .ref 0), (1, .int l1), (2, .int l2), (3, .int l3)]) (st' := [.int l3, .ref 0]) (ps := [¬ (σ 0 1) ≤ l3]) rfl ⟨c1, trivial⟩ ?_
    refine hV.cVi (as := [.int l3]) (js := [0, 1, 2, 3, 4, 5, 6, 7, 8, 9, 10, 11, 12, 13, 14, 15, 16, 17, 18]) (rest := []) (st := [.int l3, .ref 0]) (ws2 := wX2 11 σ τ) (pc2 := 17) kX2_142 (c_X2_doing l σ τ l3) rfl rfl rfl rfl rfl rfl rfl rfl rfl rfl rfl rfl ?_
    by_cases c2 : (X2_doing σ l3) = l1
    · rw [if_pos c2] at h
      refine hV.run 2 [1] (ws' := wX2 11 σ τ) (pc' := 27) (ls' := [(0, .ref 0), (1, .int l1), (2, .int l2), (3, .int l3)]) (st' := []) (ps := [(X2_doing σ l3) = l1]) rfl ⟨c2, trivial⟩ ?_
      exact p_X2_notDoing_J27 hV n σ τ res hP kont4 hk4 l1 l2 l3 h
    · rw [if_neg c2] at h
      refine hV.run 8 [0] (ws' := wX2 11 σ τ) (pc' := 27) (ls' := [(2, .int (l2 ||| (1 <<< (l3 &&& 31)))), (0, .ref 0), (1, .int l1), (3, .int l3)]) (st' := []) (ps := [¬ (X2_doing σ l3) = l1]) rfl ⟨c2, trivial⟩ ?_
      refine hV.pick [1, 2, 0, 3] (ls' := [(0, .ref 0), (1, .int l1), (2, .int (l2 ||| (1 <<< (l3 &&& 31)))), (3, .int l3)]) rfl ?_
      exact p_X2_notDoing_J27 hV n σ τ res hP kont4 hk4 l1 (l2 ||| (1 <<< (l3 &&& 31))) l3 h
theorem p_X2_notDoing_L4 {l : Launch} {Post : Option Value → am_W → Prop} {V : am_VT} (hV : am_B l RX2 false 4 (am_cdT' tX2_notDoing) (am_rfL rfX2) (some .int) Post 19 V) (n : Nat) (σ : am_M) (τ : Nat → Int64) (res : Int32) (hP : Post (some (.int res)) (wX2 11 σ τ)) : ∀ (k : Nat) (l1 : Int32) (l2 : Int32) (l3 : Int32) (h : X2_notDoing_L4 n σ k l1 l2 l3 = some res), V (wX2 11 σ τ) 4 [(0, .ref 0), (1, .int l1), (2, .int l2), (3, .int l3)] [] := by
  intro k
  induction k with
  | zero => intro l1 l2 l3 h; cases h
  | succ k ih => intro l1 l2 l3 h; exact p_X2_notDoing_B4 hV n σ τ res hP _ ih l1 l2 l3 h
def X2_notDoing (n : Nat) (σ : am_M) (a1 : Int32) : Option Int32 := X2_notDoing_L4 n σ n a1 0 0
set_option maxRecDepth 100000 in
theorem c_X2_notDoing (l : Launch) (n : Nat) (σ : am_M) (τ : Nat → Int64) (a1 : Int32) (res : Int32) (h : X2_notDoing n σ a1 = some res) : am_Con l yX2_notDoing cX2_notDoing 4 (some .int) 4 [.ref 0, .int a1] (wX2 11 σ τ) (fun (r : Option Value) (w : am_W) => r = (some (.int res)) ∧ w = (wX2 11 σ τ)) := by
  refine am_met (own := RX2) (cd := am_cdT' tX2_notDoing) (rf := am_rfL rfX2) (ini := false) (by decide +kernel) rfl (by decide) dX2_notDoing rfX2_ok (Nat.le_of_ble_eq_true rfl) ?_
  intro V hV
  have hP : (fun (r : Option Value) (w : am_W) => r = (some (.int res)) ∧ w = (wX2 11 σ τ)) (some (.int res)) (wX2 11 σ τ) := ⟨rfl, rfl⟩
  show V (wX2 11 σ τ) 0 [(0, .ref 0), (1, .int a1)] []
  unfold X2_notDoing at h
  refine hV.run 4 [] (ws' := wX2 11 σ τ) (pc' := 4) (ls' := [(3, .int 0), (2, .int 0), (0, .ref 0), (1, .int a1)]) (st' := []) (ps := []) rfl trivial ?_
  refine hV.pick [2, 3, 1, 0] (ls' := [(0, .ref 0), (1, .int a1), (2, .int 0), (3, .int 0)]) rfl ?_
  exact p_X2_notDoing_L4 hV n σ τ res hP n a1 0 0 h

def X2_can (n : Nat) (σ : am_M) (a1 : Int32) (a2 : Int32) : Option Bool := if (X2_doing σ a1) = 0 then (X2_hasRoom n σ a1).bind (fun q2 => if q2 = true then (some true) else (X2_canMeet n σ a1).bind (fun q4 => if q4 = true then (some true) else (some false))) else (if (X2_doing σ a1) = 1 then (X2_canMeet n σ a1).bind (fun q7 => some q7) else (if (X2_doing σ a1) = 2 then (some true) else (if (X2_doing σ a1) = 3 then (X6_first n (am_sub σ 2) (X2_get σ a1 10) a1 (X2_get σ a1 11)).bind (fun q10 => if q10 = (-1) then (some false) else (some true)) else (if (X2_doing σ a1) = 4 then (X6_first n (am_sub σ 2) a2 a1 (X2_get σ a1 11)).bind (fun q13 => if q13 = (-1) then (some false) else (some true)) else (if (X2_doing σ a1) = 5 then (X6_begunBy n (am_sub σ 2) a1).bind (fun q16 => if q16 = 0 then (some true) else (some false)) else (if (X2_doing σ a1) = 6 then (if a1 = 0 then (X2_notDoing n σ (X2_doing σ a1)).bind (fun q20 => if q20 = 0 then (some true) else (some false)) else (some false)) else (if (X2_doing σ a1) = 7 then (if a1 = 0 then (X2_notDoing n σ (X2_doing σ a1)).bind (fun q24 => if q24 = 0 then (some true) else (some false)) else (some false)) else (some false))))))))
set_option maxRecDepth 100000 in
theorem c_X2_can (l : Launch) (n : Nat) (σ : am_M) (τ : Nat → Int64) (a1 : Int32) (a2 : Int32) (res : Bool) (h : X2_can n σ a1 a2 = some res) : am_Con l yX2_can cX2_can 4 (some .boolean) 5 [.ref 0, .int a1, .int a2] (wX2 11 σ τ) (fun (r : Option Value) (w : am_W) => r = (some (.int (b2i res))) ∧ w = (wX2 11 σ τ)) := by
  refine am_met (own := RX2) (cd := am_cdT' tX2_can) (rf := am_rfL rfX2) (ini := false) (by decide +kernel) rfl (by decide) dX2_can rfX2_ok (Nat.le_of_ble_eq_true rfl) ?_
  intro V hV
  have hP : (fun (r : Option Value) (w : am_W) => r = (some (.int (b2i res))) ∧ w = (wX2 11 σ τ)) (some (.int (b2i res))) (wX2 11 σ τ) := ⟨rfl, rfl⟩
  show V (wX2 11 σ τ) 0 [(0, .ref 0), (1, .int a1), (2, .int a2)] []
  unfold X2_can at h
  refine hV.run 2 [] (ws' := wX2 11 σ τ) (pc' := 2) (ls' := [(0, .ref 0), (1, .int a1), (2, .int a2)]) (st' := [.int a1, .ref 0]) (ps := []) rfl trivial ?_
  refine hV.cVi (as := [.int a1]) (js := [0, 1, 2, 3, 4, 5, 6, 7, 8, 9, 10, 11, 12, 13, 14, 15, 16, 17, 18]) (rest := []) (st := [.int a1, .ref 0]) (ws2 := wX2 11 σ τ) (pc2 := 5) kX2_142 (c_X2_doing l σ τ a1) rfl rfl rfl rfl rfl rfl rfl rfl rfl rfl rfl rfl ?_
  by_cases c1 : (X2_doing σ a1) = 0
  · rw [if_pos c1] at h
    refine hV.run 5 [1] (ws' := wX2 11 σ τ) (pc' := 54) (ls' := [(3, .int (X2_doing σ a1)), (0, .ref 0), (1, .int a1), (2, .int a2)]) (st' := [.int a1, .ref 0]) (ps := [(X2_doing σ a1).toInt = 0 + ((0 : Nat) : Int), 0 < 8, ¬ 7 < (X2_doing σ a1).toInt]) rfl ⟨(by rw [c1]; decide), (by decide), (by rw [c1]; decide), trivial⟩ ?_
    obtain ⟨q2, hq2, h⟩ := am_bind h
    refine hV.cVi (as := [.int a1]) (js := [0, 1, 2, 3, 4, 5, 6, 7, 8, 9, 10, 11, 12, 13, 14, 15, 16, 17, 18]) (rest := []) (st := [.int a1, .ref 0]) (ws2 := wX2 11 σ τ) (pc2 := 57) kX2_145 (c_X2_hasRoom l n σ τ a1 q2 hq2) rfl rfl rfl rfl rfl rfl rfl rfl rfl rfl rfl rfl ?_
    by_cases c3 : q2 = true
    · rw [if_pos c3] at h
      refine hV.run 3 [1] (ws' := wX2 11 σ τ) (pc' := 73) (ls' := [(3, .int (X2_doing σ a1)), (0, .ref 0), (1, .int a1), (2, .int a2)]) (st' := [.int 1]) (ps := [¬ (b2i q2) = 0]) rfl ⟨(b2i_t c3), trivial⟩ ?_
      cases h
      exact hV.rz rfl rfl rfl (Or.inr rfl) hP
    · rw [if_neg c3] at h
      refine hV.run 3 [0] (ws' := wX2 11 σ τ) (pc' := 62) (ls' := [(3, .int (X2_doing σ a1)), (0, .ref 0), (1, .int a1), (2, .int a2)]) (st' := [.int a1, .ref 0]) (ps := [(b2i q2) = 0]) rfl ⟨(b2i_f c3), trivial⟩ ?_
      obtain ⟨q4, hq4, h⟩ := am_bind h
      refine hV.cVi (as := [.int a1]) (js := [0, 1, 2, 3, 4, 5, 6, 7, 8, 9, 10, 11, 12, 13, 14, 15, 16, 17, 18]) (rest := []) (st := [.int a1, .ref 0]) (ws2 := wX2 11 σ τ) (pc2 := 65) kX2_148 (c_X2_canMeet l n σ τ a1 q4 hq4) rfl rfl rfl rfl rfl rfl rfl rfl rfl rfl rfl rfl ?_
      by_cases c5 : q4 = true
      · rw [if_pos c5] at h
        refine hV.run 3 [0] (ws' := wX2 11 σ τ) (pc' := 73) (ls' := [(3, .int (X2_doing σ a1)), (0, .ref 0), (1, .int a1), (2, .int a2)]) (st' := [.int 1]) (ps := [¬ (b2i q4) = 0]) rfl ⟨(b2i_t c5), trivial⟩ ?_
        cases h
        exact hV.rz rfl rfl rfl (Or.inr rfl) hP
      · rw [if_neg c5] at h
        refine hV.run 2 [1] (ws' := wX2 11 σ τ) (pc' := 73) (ls' := [(3, .int (X2_doing σ a1)), (0, .ref 0), (1, .int a1), (2, .int a2)]) (st' := [.int 0]) (ps := [(b2i q4) = 0]) rfl ⟨(b2i_f c5), trivial⟩ ?_
        cases h
        exact hV.rz rfl rfl rfl (Or.inl rfl) hP
  · rw [if_neg c1] at h
    by_cases c6 : (X2_doing σ a1) = 1
    · rw [if_pos c6] at h
      refine hV.run 5 [2] (ws' := wX2 11 σ τ) (pc' := 76) (ls' := [(3, .int (X2_doing σ a1)), (0, .ref 0), (1, .int a1), (2, .int a2)]) (st' := [.int a1, .ref 0]) (ps := [(X2_doing σ a1).toInt = 0 + ((1 : Nat) : Int), 1 < 8, ¬ 7 < (X2_doing σ a1).toInt]) rfl ⟨(by rw [c6]; decide), (by decide), (by rw [c6]; decide), trivial⟩ ?_
      obtain ⟨q7, hq7, h⟩ := am_bind h
      refine hV.cVi (as := [.int a1]) (js := [0, 1, 2, 3, 4, 5, 6, 7, 8, 9, 10, 11, 12, 13, 14, 15, 16, 17, 18]) (rest := []) (st := [.int a1, .ref 0]) (ws2 := wX2 11 σ τ) (pc2 := 79) kX2_148 (c_X2_canMeet l n σ τ a1 q7 hq7) rfl rfl rfl rfl rfl rfl rfl rfl rfl rfl rfl rfl ?_
      cases h
      exact hV.rz rfl rfl rfl (b2i_01 _) hP
    · rw [if_neg c6] at h
      by_cases c8 : (X2_doing σ a1) = 2
      · rw [if_pos c8] at h
        refine hV.run 4 [3] (ws' := wX2 11 σ τ) (pc' := 81) (ls' := [(3, .int (X2_doing σ a1)), (0, .ref 0), (1, .int a1), (2, .int a2)]) (st' := [.int 1]) (ps := [(X2_doing σ a1).toInt = 0 + ((2 : Nat) : Int), 2 < 8, ¬ 7 < (X2_doing σ a1).toInt]) rfl ⟨(by rw [c8]; decide), (by decide), (by rw [c8]; decide), trivial⟩ ?_
        cases h
        exact hV.rz rfl rfl rfl (Or.inr rfl) hP
      · rw [if_neg c8] at h
        by_cases c9 : (X2_doing σ a1) = 3
        · rw [if_pos c9] at h
          refine hV.run 8 [4] (ws' := wX2 11 σ τ) (pc' := 90) (ls' := [(3, .int (X2_doing σ a1)), (0, .ref 0), (1, .int a1), (2, .int a2)]) (st' := [.int 10, .int a1, .ref 0, .ref 2]) (ps := [(X2_doing σ a1).toInt = 0 + ((3 : Nat) : Int), 3 < 8, ¬ 7 < (X2_doing σ a1).toInt]) rfl ⟨(by rw [c9]; decide), (by decide), (by rw [c9]; decide), trivial⟩ ?_
          refine hV.cVi (as := [.int a1, .int 10]) (js := [0, 1, 2, 3, 4, 5, 6, 7, 8, 9, 10, 11, 12, 13, 14, 15, 16, 17, 18]) (rest := [.ref 2]) (st := [.int 10, .int a1, .ref 0, .ref 2]) (ws2 := wX2 11 σ τ) (pc2 := 93) kX2_81 (c_X2_get l σ τ a1 10) rfl rfl rfl rfl rfl rfl rfl rfl rfl rfl rfl rfl ?_
          refine hV.run 4 [] (ws' := wX2 11 σ τ) (pc' := 98) (ls' := [(3, .int (X2_doing σ a1)), (0, .ref 0), (1, .int a1), (2, .int a2)]) (st' := [.int 11, .int a1, .ref 0, .int a1, .int (X2_get σ a1 10), .ref 2]) (ps := []) rfl trivial ?_
          refine hV.cVi (as := [.int a1, .int 11]) (js := [0, 1, 2, 3, 4, 5, 6, 7, 8, 9, 10, 11, 12, 13, 14, 15, 16, 17, 18]) (rest := [.int a1, .int (X2_get σ a1 10), .ref 2]) (st := [.int 11, .int a1, .ref 0, .int a1, .int (X2_get σ a1 10), .ref 2]) (ws2 := wX2 11 σ τ) (pc2 := 101) kX2_81 (c_X2_get l σ τ a1 11) rfl rfl rfl rfl rfl rfl rfl rfl rfl rfl rfl rfl ?_
          obtain ⟨q10, hq10, h⟩ := am_bind h
          refine hV.cVi (as := [.int (X2_get σ a1 10), .int a1, .int (X2_get σ a1 11)]) (js := [2, 3, 4, 5, 6]) (rest := []) (st := [.int (X2_get σ a1 11), .int a1, .int (X2_get σ a1 10), .ref 2]) (ws2 := wX2 11 σ τ) (pc2 := 104) kX2_151 (c_X6_first l n (am_sub σ 2) (X2_get σ a1 10) a1 (X2_get σ a1 11) q10 hq10) rfl rfl rfl rfl rfl rfl rfl rfl rfl rfl rfl rfl ?_
          by_cases c11 : q10 = (-1)
          · rw [if_pos c11] at h
            refine hV.run 3 [1] (ws' := wX2 11 σ τ) (pc' := 113) (ls' := [(3, .int (X2_doing σ a1)), (0, .ref 0), (1, .int a1), (2, .int a2)]) (st' := [.int 0]) (ps := [q10 = (-1)]) rfl ⟨c11, trivial⟩ ?_
            cases h
            exact hV.rz rfl rfl rfl (Or.inl rfl) hP
          · rw [if_neg c11] at h
            refine hV.run 4 [0] (ws' := wX2 11 σ τ) (pc' := 113) (ls' := [(3, .int (X2_doing σ a1)), (0, .ref 0), (1, .int a1), (2, .int a2)]) (st' := [.int 1]) (ps := [¬ q10 = (-1)]) rfl ⟨c11, trivial⟩ ?_
            cases h
            exact hV.rz rfl rfl rfl (Or.inr rfl) hP
        · rw [if_neg c9] at h
          by_cases c12 : (X2_doing σ a1) = 4
          · rw [if_pos c12] at h
            refine hV.run 10 [5] (ws' := wX2 11 σ τ) (pc' := 124) (ls' := [(3, .int (X2_doing σ a1)), (0, .ref 0), (1, .int a1), (2, .int a2)]) (st' := [.int 11, .int a1, .ref 0, .int a1, .int a2, .ref 2]) (ps := [(X2_doing σ a1).toInt = 0 + ((4 : Nat) : Int), 4 < 8, ¬ 7 < (X2_doing σ a1).toInt]) rfl ⟨(by rw [c12]; decide), (by decide), (by rw [c12]; decide), trivial⟩ ?_
            refine hV.cVi (as := [.int a1, .int 11]) (js := [0, 1, 2, 3, 4, 5, 6, 7, 8, 9, 10, 11, 12, 13, 14, 15, 16, 17, 18]) (rest := [.int a1, .int a2, .ref 2]) (st := [.int 11, .int a1, .ref 0, .int a1, .int a2, .ref 2]) (ws2 := wX2 11 σ τ) (pc2 := 127) kX2_81 (c_X2_get l σ τ a1 11) rfl rfl rfl rfl rfl rfl rfl rfl rfl rfl rfl rfl ?_
            obtain ⟨q13, hq13, h⟩ := am_bind h
            refine hV.cVi (as := [.int a2, .int a1, .int (X2_get σ a1 11)]) (js := [2, 3, 4, 5, 6]) (rest := []) (st := [.int (X2_get σ a1 11), .int a1, .int a2, .ref 2]) (ws2 := wX2 11 σ τ) (pc2 := 130) kX2_151 (c_X6_first l n (am_sub σ 2) a2 a1 (X2_get σ a1 11) q13 hq13) rfl rfl rfl rfl rfl rfl rfl rfl rfl rfl rfl rfl ?_
            by_cases c14 : q13 = (-1)
            · rw [if_pos c14] at h
              refine hV.run 3 [1] (ws' := wX2 11 σ τ) (pc' := 139) (ls' := [(3, .int (X2_doing σ a1)), (0, .ref 0), (1, .int a1), (2, .int a2)]) (st' := [.int 0]) (ps := [q13 = (-1)]) rfl ⟨c14, trivial⟩ ?_
              cases h
              exact hV.rz rfl rfl rfl (Or.inl rfl) hP
            · rw [if_neg c14] at h
              refine hV.run 4 [0] (ws' := wX2 11 σ τ) (pc' := 139) (ls' := [(3, .int (X2_doing σ a1)), (0, .ref 0), (1, .int a1), (2, .int a2)]) (st' := [.int 1]) (ps := [¬ q13 = (-1)]) rfl ⟨c14, trivial⟩ ?_
              cases h
              exact hV.rz rfl rfl rfl (Or.inr rfl) hP
          · rw [if_neg c12] at h
            by_cases c15 : (X2_doing σ a1) = 5
            · rw [if_pos c15] at h
              refine hV.run 6 [6] (ws' := wX2 11 σ τ) (pc' := 145) (ls' := [(3, .int (X2_doing σ a1)), (0, .ref 0), (1, .int a1), (2, .int a2)]) (st' := [.int a1, .ref 2]) (ps := [(X2_doing σ a1).toInt = 0 + ((5 : Nat) : Int), 5 < 8, ¬ 7 < (X2_doing σ a1).toInt]) rfl ⟨(by rw [c15]; decide), (by decide), (by rw [c15]; decide), trivial⟩ ?_
              obtain ⟨q16, hq16, h⟩ := am_bind h
              refine hV.cVi (as := [.int a1]) (js := [2, 3, 4, 5, 6]) (rest := []) (st := [.int a1, .ref 2]) (ws2 := wX2 11 σ τ) (pc2 := 148) kX2_154 (c_X6_begunBy l n (am_sub σ 2) a1 q16 hq16) rfl rfl rfl rfl rfl rfl rfl rfl rfl rfl rfl rfl ?_
              by_cases c17 : q16 = 0
              · rw [if_pos c17] at h
                refine hV.run 3 [0] (ws' := wX2 11 σ τ) (pc' := 156) (ls' := [(3, .int (X2_doing σ a1)), (0, .ref 0), (1, .int a1), (2, .int a2)]) (st' := [.int 1]) (ps := [q16 = 0]) rfl ⟨c17, trivial⟩ ?_
                cases h
                exact hV.rz rfl rfl rfl (Or.inr rfl) hP
              · rw [if_neg c17] at h
                refine hV.run 2 [1] (ws' := wX2 11 σ τ) (pc' := 156) (ls' := [(3, .int (X2_doing σ a1)), (0, .ref 0), (1, .int a1), (2, .int a2)]) (st' := [.int 0]) (ps := [¬ q16 = 0]) rfl ⟨c17, trivial⟩ ?_
                cases h
                exact hV.rz rfl rfl rfl (Or.inl rfl) hP
            · rw [if_neg c15] at h
              by_cases c18 : (X2_doing σ a1) = 6
              · rw [if_pos c18] at h
                by_cases c19 : a1 = 0
                · rw [if_pos c19] at h
                  refine hV.run 7 [7, 0] (ws' := wX2 11 σ τ) (pc' := 163) (ls' := [(3, .int (X2_doing σ a1)), (0, .ref 0), (1, .int a1), (2, .int a2)]) (st' := [.int (X2_doing σ a1), .ref 0]) (ps := [(X2_doing σ a1).toInt = 0 + ((6 : Nat) : Int), 6 < 8, ¬ 7 < (X2_doing σ a1).toInt, a1 = 0]) rfl ⟨(by rw [c18]; decide), (by decide), (by rw [c18]; decide), c19, trivial⟩ ?_
                  obtain ⟨q20, hq20, h⟩ := am_bind h
                  refine hV.cVi (as := [.int (X2_doing σ a1)]) (js := [0, 1, 2, 3, 4, 5, 6, 7, 8, 9, 10, 11, 12, 13, 14, 15, 16, 17, 18]) (rest := []) (st := [.int (X2_doing σ a1), .ref 0]) (ws2 := wX2 11 σ τ) (pc2 := 166) kX2_157 (c_X2_notDoing l n σ τ (X2_doing σ a1) q20 hq20) rfl rfl rfl rfl rfl rfl rfl rfl rfl rfl rfl rfl ?_
                  by_cases c21 : q20 = 0
                  · rw [if_pos c21] at h
                    refine hV.run 3 [0] (ws' := wX2 11 σ τ) (pc' := 174) (ls' := [(3, .int (X2_doing σ a1)), (0, .ref 0), (1, .int a1), (2, .int a2)]) (st' := [.int 1]) (ps := [q20 = 0]) rfl ⟨c21, trivial⟩ ?_
                    cases h
                    exact hV.rz rfl rfl rfl (Or.inr rfl) hP
                  · rw [if_neg c21] at h
                    refine hV.run 2 [1] (ws' := wX2 11 σ τ) (pc' := 174) (ls' := [(3, .int (X2_doing σ a1)), (0, .ref 0), (1, .int a1), (2, .int a2)]) (st' := [.int 0]) (ps := [¬ q20 = 0]) rfl ⟨c21, trivial⟩ ?_
                    cases h
                    exact hV.rz rfl rfl rfl (Or.inl rfl) hP
                · rw [if_neg c19] at h
                  refine hV.run 6 [7, 1] (ws' := wX2 11 σ τ) (pc' := 174) (ls' := [(3, .int (X2_doing σ a1)), (0, .ref 0), (1, .int a1), (2, .int a2)]) (st' := [.int 0]) (ps := [(X2_doing σ a1).toInt = 0 + ((6 : Nat) : Int), 6 < 8, ¬ 7 < (X2_doing σ a1).toInt, ¬ a1 = 0]) rfl ⟨(by rw [c18]; decide), (by decide), (by rw [c18]; decide), c19, trivial⟩ ?_
                  cases h
                  exact hV.rz rfl rfl rfl (Or.inl rfl) hP
              · rw [if_neg c18] at h
                by_cases c22 : (X2_doing σ a1) = 7
                · rw [if_pos c22] at h
                  by_cases c23 : a1 = 0
                  · rw [if_pos c23] at h
                    refine hV.run 7 [8, 0] (ws' := wX2 11 σ τ) (pc' := 163) (ls' := [(3, .int (X2_doing σ a1)), (0, .ref 0), (1, .int a1), (2, .int a2)]) (st' := [.int (X2_doing σ a1), .ref 0]) (ps := [(X2_doing σ a1).toInt = 0 + ((7 : Nat) : Int), 7 < 8, ¬ 7 < (X2_doing σ a1).toInt, a1 = 0]) rfl ⟨(by rw [c22]; decide), (by decide), (by rw [c22]; decide), c23, trivial⟩ ?_
                    obtain ⟨q24, hq24, h⟩ := am_bind h
                    refine hV.cVi (as := [.int (X2_doing σ a1)]) (js := [0, 1, 2, 3, 4, 5, 6, 7, 8, 9, 10, 11, 12, 13, 14, 15, 16, 17, 18]) (rest := []) (st := [.int (X2_doing σ a1), .ref 0]) (ws2 := wX2 11 σ τ) (pc2 := 166) kX2_157 (c_X2_notDoing l n σ τ (X2_doing σ a1) q24 hq24) rfl rfl rfl rfl rfl rfl rfl rfl rfl rfl rfl rfl ?_
                    by_cases c25 : q24 = 0
                    · rw [if_pos c25] at h
                      refine hV.run 3 [0] (ws' := wX2 11 σ τ) (pc' := 174) (ls' := [(3, .int (X2_doing σ a1)), (0, .ref 0), (1, .int a1), (2, .int a2)]) (st' := [.int 1]) (ps := [q24 = 0]) rfl ⟨c25, trivial⟩ ?_
                      cases h
                      exact hV.rz rfl rfl rfl (Or.inr rfl) hP
                    · rw [if_neg c25] at h
                      refine hV.run 2 [1] (ws' := wX2 11 σ τ) (pc' := 174) (ls' := [(3, .int (X2_doing σ a1)), (0, .ref 0), (1, .int a1), (2, .int a2)]) (st' := [.int 0]) (ps := [¬ q24 = 0]) rfl ⟨c25, trivial⟩ ?_
                      cases h
                      exact hV.rz rfl rfl rfl (Or.inl rfl) hP
                  · rw [if_neg c23] at h
                    refine hV.run 6 [8, 1] (ws' := wX2 11 σ τ) (pc' := 174) (ls' := [(3, .int (X2_doing σ a1)), (0, .ref 0), (1, .int a1), (2, .int a2)]) (st' := [.int 0]) (ps := [(X2_doing σ a1).toInt = 0 + ((7 : Nat) : Int), 7 < 8, ¬ 7 < (X2_doing σ a1).toInt, ¬ a1 = 0]) rfl ⟨(by rw [c22]; decide), (by decide), (by rw [c22]; decide), c23, trivial⟩ ?_
                    cases h
                    exact hV.rz rfl rfl rfl (Or.inl rfl) hP
                · rw [if_neg c22] at h
                  refine hV.run 4 [0] (ws' := wX2 11 σ τ) (pc' := 176) (ls' := [(3, .int (X2_doing σ a1)), (0, .ref 0), (1, .int a1), (2, .int a2)]) (st' := [.int 0]) (ps := [(X2_doing σ a1).toInt < 0 ∨ 7 < (X2_doing σ a1).toInt]) rfl ⟨(by have c1_ := am_ne c1 (by decide : (0 : Int32).toInt = 0); have c6_ := am_ne c6 (by decide : (1 : Int32).toInt = 1); have c8_ := am_ne c8 (by decide : (2 : Int32).toInt = 2); have c9_ := am_ne c9 (by decide : (3 : Int32).toInt = 3); have c12_ := am_ne c12 (by decide : (4 : Int32).toInt = 4); have c15_ := am_ne c15 (by decide : (5 : Int32).toInt = 5); have c18_ := am_ne c18 (by decide : (6 : Int32).toInt = 6); have c22_ := am_ne c22 (by decide : (7 : Int32).toInt = 7); omega), trivial⟩ ?_
                  cases h
                  exact hV.rz rfl rfl rfl (Or.inl rfl) hP

def X2_lay (n : Nat) (σ : am_M) (a1 : Int32) (a2 : Int32) : Option am_M := (X2_tick σ a1 1).bind (fun q1 => (X6_add n (am_sub q1 2) (X6_pair a1 (X2_get σ a1 10)) (X2_get q1 a1 11) (X2_get q1 a1 12) (((jat 40 (q1 16) (X2_get q1 a1 0)) <<< 1) ||| a2) ((jat 8 (q1 8) a1) + (X2_far q1 a1 (X2_get σ a1 10)))).bind (fun q2 => (X2_hasDone (am_put q1 2 5 q2) a1).bind (fun q3 => some q3)))
set_option maxRecDepth 100000 in
theorem c_X2_lay (l : Launch) (n : Nat) (σ : am_M) (τ : Nat → Int64) (a1 : Int32) (a2 : Int32) (res : am_M) (h : X2_lay n σ a1 a2 = some res) : am_Con l yX2_lay cX2_lay 6 none 4 [.ref 0, .int a1, .int a2] (wX2 11 σ τ) (fun (r : Option Value) (w : am_W) => r = none ∧ w = (wX2 11 res τ)) := by
  refine am_met (own := RX2) (cd := am_cdT' tX2_lay) (rf := am_rfL rfX2) (ini := false) (by decide +kernel) rfl (by decide) dX2_lay rfX2_ok (Nat.le_of_ble_eq_true rfl) ?_
  intro V hV
  have hP : (fun (r : Option Value) (w : am_W) => r = none ∧ w = (wX2 11 res τ)) none (wX2 11 res τ) := ⟨rfl, rfl⟩
  show V (wX2 11 σ τ) 0 [(0, .ref 0), (1, .int a1), (2, .int a2)] []
  unfold X2_lay at h
  refine hV.run 3 [] (ws' := wX2 11 σ τ) (pc' := 4) (ls' := [(0, .ref 0), (1, .int a1), (2, .int a2)]) (st' := [.int 10, .int a1, .ref 0]) (ps := []) rfl trivial ?_
  refine hV.cVi (as := [.int a1, .int 10]) (js := [0, 1, 2, 3, 4, 5, 6, 7, 8, 9, 10, 11, 12, 13, 14, 15, 16, 17, 18]) (rest := []) (st := [.int 10, .int a1, .ref 0]) (ws2 := wX2 11 σ τ) (pc2 := 7) kX2_81 (c_X2_get l σ τ a1 10) rfl rfl rfl rfl rfl rfl rfl rfl rfl rfl rfl rfl ?_
  refine hV.run 4 [] (ws' := wX2 11 σ τ) (pc' := 11) (ls' := [(3, .int (X2_get σ a1 10)), (0, .ref 0), (1, .int a1), (2, .int a2)]) (st' := [.int 1, .int a1, .ref 0]) (ps := []) rfl trivial ?_
  obtain ⟨q1, hq1, h⟩ := am_bind h
  refine hV.cVv (as := [.int a1, .int 1]) (js := [0, 1, 2, 3, 4, 5, 6, 7, 8, 9, 10, 11, 12, 13, 14, 15, 16, 17, 18]) (rest := []) (st := [.int 1, .int a1, .ref 0]) (ws2 := wX2 11 q1 τ) (pc2 := 14) kX2_175 (c_X2_tick l σ τ a1 1 q1 hq1) rfl rfl rfl rfl rfl rfl rfl rfl rfl rfl rfl rfl ?_
  refine hV.run 6 [] (ws' := wX2 11 q1 τ) (pc' := 24) (ls' := [(3, .int (X2_get σ a1 10)), (0, .ref 0), (1, .int a1), (2, .int a2)]) (st' := [.int 0, .int a1, .ref 0, .ref 16]) (ps := []) rfl trivial ?_
  refine hV.cVi (as := [.int a1, .int 0]) (js := [0, 1, 2, 3, 4, 5, 6, 7, 8, 9, 10, 11, 12, 13, 14, 15, 16, 17, 18]) (rest := [.ref 16]) (st := [.int 0, .int a1, .ref 0, .ref 16]) (ws2 := wX2 11 q1 τ) (pc2 := 27) kX2_81 (c_X2_get l q1 τ a1 0) rfl rfl rfl rfl rfl rfl rfl rfl rfl rfl rfl rfl ?_
  refine hV.cSi (as := [.ref 0, .int (X2_get q1 a1 0)]) (js := [16]) (rest := []) (st := [.int (X2_get q1 a1 0), .ref 16]) (ws2 := wX2 11 q1 τ) (pc2 := 30) kX2_110 (c_at l 1 40 (by decide) (q1 16) (X2_get q1 a1 0)) rfl rfl rfl rfl rfl rfl rfl rfl rfl rfl ?_
  refine hV.run 8 [] (ws' := wX2 11 q1 τ) (pc' := 41) (ls' := [(4, .int (((jat 40 (q1 16) (X2_get q1 a1 0)) <<< 1) ||| a2)), (3, .int (X2_get σ a1 10)), (0, .ref 0), (1, .int a1), (2, .int a2)]) (st' := [.int a1, .ref 8]) (ps := []) rfl trivial ?_
  refine hV.cSi (as := [.ref 0, .int a1]) (js := [8]) (rest := []) (st := [.int a1, .ref 8]) (ws2 := wX2 11 q1 τ) (pc2 := 44) kX2_110 (c_at l 1 8 (by decide) (q1 8) a1) rfl rfl rfl rfl rfl rfl rfl rfl rfl rfl ?_
  refine hV.run 3 [] (ws' := wX2 11 q1 τ) (pc' := 47) (ls' := [(4, .int (((jat 40 (q1 16) (X2_get q1 a1 0)) <<< 1) ||| a2)), (3, .int (X2_get σ a1 10)), (0, .ref 0), (1, .int a1), (2, .int a2)]) (st' := [.int (X2_get σ a1 10), .int a1, .ref 0, .int (jat 8 (q1 8) a1)]) (ps := []) rfl trivial ?_
  refine hV.cVi (as := [.int a1, .int (X2_get σ a1 10)]) (js := [0, 1, 2, 3, 4, 5, 6, 7, 8, 9, 10, 11, 12, 13, 14, 15, 16, 17, 18]) (rest := [.int (jat 8 (q1 8) a1)]) (st := [.int (X2_get σ a1 10), .int a1, .ref 0, .int (jat 8 (q1 8) a1)]) (ws2 := wX2 11 q1 τ) (pc2 := 50) kX2_187 (c_X2_far l q1 τ a1 (X2_get σ a1 10)) rfl rfl rfl rfl rfl rfl rfl rfl rfl rfl rfl rfl ?_
  refine hV.run 6 [] (ws' := wX2 11 q1 τ) (pc' := 59) (ls' := [(5, .int ((jat 8 (q1 8) a1) + (X2_far q1 a1 (X2_get σ a1 10)))), (4, .int (((jat 40 (q1 16) (X2_get q1 a1 0)) <<< 1) ||| a2)), (3, .int (X2_get σ a1 10)), (0, .ref 0), (1, .int a1), (2, .int a2)]) (st' := [.int (X2_get σ a1 10), .int a1, .ref 2]) (ps := []) rfl trivial ?_
  refine hV.cSi (as := [.int a1, .int (X2_get σ a1 10)]) (js := []) (rest := [.ref 2]) (st := [.int (X2_get σ a1 10), .int a1, .ref 2]) (ws2 := wX2 11 q1 τ) (pc2 := 62) kX2_190 (c_X6_pair l a1 (X2_get σ a1 10)) rfl rfl rfl rfl rfl rfl rfl rfl rfl rfl ?_
  refine hV.run 3 [] (ws' := wX2 11 q1 τ) (pc' := 66) (ls' := [(5, .int ((jat 8 (q1 8) a1) + (X2_far q1 a1 (X2_get σ a1 10)))), (4, .int (((jat 40 (q1 16) (X2_get q1 a1 0)) <<< 1) ||| a2)), (3, .int (X2_get σ a1 10)), (0, .ref 0), (1, .int a1), (2, .int a2)]) (st' := [.int 11, .int a1, .ref 0, .int (X6_pair a1 (X2_get σ a1 10)), .ref 2]) (ps := []) rfl trivial ?_
  refine hV.cVi (as := [.int a1, .int 11]) (js := [0, 1, 2, 3, 4, 5, 6, 7, 8, 9, 10, 11, 12, 13, 14, 15, 16, 17, 18]) (rest := [.int (X6_pair a1 (X2_get σ a1 10)), .ref 2]) (st := [.int 11, .int a1, .ref 0, .int (X6_pair a1 (X2_get σ a1 10)), .ref 2]) (ws2 := wX2 11 q1 τ) (pc2 := 69) kX2_81 (c_X2_get l q1 τ a1 11) rfl rfl rfl rfl rfl rfl rfl rfl rfl rfl rfl rfl ?_
  refine hV.run 3 [] (ws' := wX2 11 q1 τ) (pc' := 73) (ls' := [(5, .int ((jat 8 (q1 8) a1) + (X2_far q1 a1 (X2_get σ a1 10)))), (4, .int (((jat 40 (q1 16) (X2_get q1 a1 0)) <<< 1) ||| a2)), (3, .int (X2_get σ a1 10)), (0, .ref 0), (1, .int a1), (2, .int a2)]) (st' := [.int 12, .int a1, .ref 0, .int (X2_get q1 a1 11), .int (X6_pair a1 (X2_get σ a1 10)), .ref 2]) (ps := []) rfl trivial ?_
  refine hV.cVi (as := [.int a1, .int 12]) (js := [0, 1, 2, 3, 4, 5, 6, 7, 8, 9, 10, 11, 12, 13, 14, 15, 16, 17, 18]) (rest := [.int (X2_get q1 a1 11), .int (X6_pair a1 (X2_get σ a1 10)), .ref 2]) (st := [.int 12, .int a1, .ref 0, .int (X2_get q1 a1 11), .int (X6_pair a1 (X2_get σ a1 10)), .ref 2]) (ws2 := wX2 11 q1 τ) (pc2 := 76) kX2_81 (c_X2_get l q1 τ a1 12) rfl rfl rfl rfl rfl rfl rfl rfl rfl rfl rfl rfl ?_
  refine hV.run 2 [] (ws' := wX2 11 q1 τ) (pc' := 80) (ls' := [(5, .int ((jat 8 (q1 8) a1) + (X2_far q1 a1 (X2_get σ a1 10)))), (4, .int (((jat 40 (q1 16) (X2_get q1 a1 0)) <<< 1) ||| a2)), (3, .int (X2_get σ a1 10)), (0, .ref 0), (1, .int a1), (2, .int a2)]) (st' := [.int ((jat 8 (q1 8) a1) + (X2_far q1 a1 (X2_get σ a1 10))), .int (((jat 40 (q1 16) (X2_get q1 a1 0)) <<< 1) ||| a2), .int (X2_get q1 a1 12), .int (X2_get q1 a1 11), .int (X6_pair a1 (X2_get σ a1 10)), .ref 2]) (ps := []) rfl trivial ?_
  obtain ⟨q2, hq2, h⟩ := am_bind h
  refine hV.cVv (as := [.int (X6_pair a1 (X2_get σ a1 10)), .int (X2_get q1 a1 11), .int (X2_get q1 a1 12), .int (((jat 40 (q1 16) (X2_get q1 a1 0)) <<< 1) ||| a2), .int ((jat 8 (q1 8) a1) + (X2_far q1 a1 (X2_get σ a1 10)))]) (js := [2, 3, 4, 5, 6]) (rest := []) (st := [.int ((jat 8 (q1 8) a1) + (X2_far q1 a1 (X2_get σ a1 10))), .int (((jat 40 (q1 16) (X2_get q1 a1 0)) <<< 1) ||| a2), .int (X2_get q1 a1 12), .int (X2_get q1 a1 11), .int (X6_pair a1 (X2_get σ a1 10)), .ref 2]) (ws2 := wX2 11 (am_put q1 2 5 q2) τ) (pc2 := 83) kX2_193 (c_X6_add l n (am_sub q1 2) (X6_pair a1 (X2_get σ a1 10)) (X2_get q1 a1 11) (X2_get q1 a1 12) (((jat 40 (q1 16) (X2_get q1 a1 0)) <<< 1) ||| a2) ((jat 8 (q1 8) a1) + (X2_far q1 a1 (X2_get σ a1 10))) q2 hq2) rfl rfl rfl rfl rfl rfl rfl rfl rfl rfl rfl rfl ?_
  refine hV.run 2 [] (ws' := wX2 11 (am_put q1 2 5 q2) τ) (pc' := 85) (ls' := [(5, .int ((jat 8 (q1 8) a1) + (X2_far q1 a1 (X2_get σ a1 10)))), (4, .int (((jat 40 (q1 16) (X2_get q1 a1 0)) <<< 1) ||| a2)), (3, .int (X2_get σ a1 10)), (0, .ref 0), (1, .int a1), (2, .int a2)]) (st' := [.int a1, .ref 0]) (ps := []) rfl trivial ?_
  obtain ⟨q3, hq3, h⟩ := am_bind h
  refine hV.cVv (as := [.int a1]) (js := [0, 1, 2, 3, 4, 5, 6, 7, 8, 9, 10, 11, 12, 13, 14, 15, 16, 17, 18]) (rest := []) (st := [.int a1, .ref 0]) (ws2 := wX2 11 q3 τ) (pc2 := 88) kX2_178 (c_X2_hasDone l (am_put q1 2 5 q2) τ a1 q3 hq3) rfl rfl rfl rfl rfl rfl rfl rfl rfl rfl rfl rfl ?_
  cases h
  exact hV.rv rfl rfl rfl hP

def X2_receive_J37 (σ : am_M) (l1 : Int32) (l2 : Int32) (l3 : Int32) (l4 : Int32) (l5 : Int32) : Option am_M := (X2_set σ l1 (2 + (jat 40 (σ 15) l5)) l3).bind (fun q1 => (X2_set q1 l1 8 l2).bind (fun q2 => if l4 ≤ (jat 40 (q2 16) l5) then (X2_hasDone q2 l1).bind (fun q4 => some q4) else (X2_stop q2 l1).bind (fun q5 => some q5)))
set_option maxRecDepth 100000 in
theorem p_X2_receive_J37 {l : Launch} {Post : Option Value → am_W → Prop} {V : am_VT} (hV : am_B l RX2 false 3 (am_cdT' tX2_receive) (am_rfL rfX2) none Post 19 V) (τ : Nat → Int64) (res : am_M) (hP : Post none (wX2 11 res τ)) (σ : am_M) (l1 : Int32) (l2 : Int32) (l3 : Int32) (l4 : Int32) (l5 : Int32) (h : X2_receive_J37 σ l1 l2 l3 l4 l5 = some res) : V (wX2 11 σ τ) 37 [(0, .ref 0), (1, .int l1), (2, .int l2), (3, .int l3), (4, .int l4), (5, .int l5)] [] := by
  unfold X2_receive_J37 at h
  refine hV.run 7 [] (ws' := wX2 11 σ τ) (pc' := 49) (ls' := [(0, .ref 0), (1, .int l1), (2, .int l2), (3, .int l3), (4, .int l4), (5, .int l5)]) (st' := [.int l5, .ref 15, .int 2, .int l1, .ref 0]) (ps := []) rfl trivial ?_
  refine hV.cSi (as := [.ref 0, .int l5]) (js := [15]) (rest := [.int 2, .int l1, .ref 0]) (st := [.int l5, .ref 15, .int 2, .int l1, .ref 0]) (ws2 := wX2 11 σ τ) (pc2 := 52) kX2_110 (c_at l 1 40 (by decide) (σ 15) l5) rfl rfl rfl rfl rfl rfl rfl rfl rfl rfl ?_
  refine hV.run 2 [] (ws' := wX2 11 σ τ) (pc' := 54) (ls' := [(0, .ref 0), (1, .int l1), (2, .int l2), (3, .int l3), (4, .int l4), (5, .int l5)]) (st' := [.int l3, .int (2 + (jat 40 (σ 15) l5)), .int l1, .ref 0]) (ps := []) rfl trivial ?_
  obtain ⟨q1, hq1, h⟩ := am_bind h
  refine hV.cVv (as := [.int l1, .int (2 + (jat 40 (σ 15) l5)), .int l3]) (js := [0, 1, 2, 3, 4, 5, 6, 7, 8, 9, 10, 11, 12, 13, 14, 15, 16, 17, 18]) (rest := []) (st := [.int l3, .int (2 + (jat 40 (σ 15) l5)), .int l1, .ref 0]) (ws2 := wX2 11 q1 τ) (pc2 := 57) kX2_73 (c_X2_set l σ τ l1 (2 + (jat 40 (σ 15) l5)) l3 q1 hq1) rfl rfl rfl rfl rfl rfl rfl rfl rfl rfl rfl rfl ?_
  refine hV.run 4 [] (ws' := wX2 11 q1 τ) (pc' := 62) (ls' := [(0, .ref 0), (1, .int l1), (2, .int l2), (3, .int l3), (4, .int l4), (5, .int l5)]) (st' := [.int l2, .int 8, .int l1, .ref 0]) (ps := []) rfl trivial ?_
  obtain ⟨q2, hq2, h⟩ := am_bind h
  refine hV.cVv (as := [.int l1, .int 8, .int l2]) (js := [0, 1, 2, 3, 4, 5, 6, 7, 8, 9, 10, 11, 12, 13, 14, 15, 16, 17, 18]) (rest := []) (st := [.int l2, .int 8, .int l1, .ref 0]) (ws2 := wX2 11 q2 τ) (pc2 := 65) kX2_73 (c_X2_set l q1 τ l1 8 l2 q2 hq2) rfl rfl rfl rfl rfl rfl rfl rfl rfl rfl rfl rfl ?_
  refine hV.run 5 [] (ws' := wX2 11 q2 τ) (pc' := 76) (ls' := [(0, .ref 0), (1, .int l1), (2, .int l2), (3, .int l3), (4, .int l4), (5, .int l5)]) (st' := [.int l5, .ref 16, .int l4]) (ps := []) rfl trivial ?_
  refine hV.cSi (as := [.ref 0, .int l5]) (js := [16]) (rest := [.int l4]) (st := [.int l5, .ref 16, .int l4]) (ws2 := wX2 11 q2 τ) (pc2 := 79) kX2_110 (c_at l 1 40 (by decide) (q2 16) l5) rfl rfl rfl rfl rfl rfl rfl rfl rfl rfl ?_
  by_cases c3 : l4 ≤ (jat 40 (q2 16) l5)
  · rw [if_pos c3] at h
    refine hV.run 3 [1] (ws' := wX2 11 q2 τ) (pc' := 92) (ls' := [(0, .ref 0), (1, .int l1), (2, .int l2), (3, .int l3), (4, .int l4), (5, .int l5)]) (st' := [.int l1, .ref 0]) (ps := [l4 ≤ (jat 40 (q2 16) l5)]) rfl ⟨c3, trivial⟩ ?_
    obtain ⟨q4, hq4, h⟩ := am_bind h
    refine hV.cVv (as := [.int l1]) (js := [0, 1, 2, 3, 4, 5, 6, 7, 8, 9, 10, 11, 12, 13, 14, 15, 16, 17, 18]) (rest := []) (st := [.int l1, .ref 0]) (ws2 := wX2 11 q4 τ) (pc2 := 95) kX2_178 (c_X2_hasDone l q2 τ l1 q4 hq4) rfl rfl rfl rfl rfl rfl rfl rfl rfl rfl rfl rfl ?_
    cases h
    exact hV.rv rfl rfl rfl hP
  · rw [if_neg c3] at h
    refine hV.run 3 [0] (ws' := wX2 11 q2 τ) (pc' := 84) (ls' := [(0, .ref 0), (1, .int l1), (2, .int l2), (3, .int l3), (4, .int l4), (5, .int l5)]) (st' := [.int l1, .ref 0]) (ps := [¬ l4 ≤ (jat 40 (q2 16) l5)]) rfl ⟨c3, trivial⟩ ?_
    obtain ⟨q5, hq5, h⟩ := am_bind h
    refine hV.cVv (as := [.int l1]) (js := [0, 1, 2, 3, 4, 5, 6, 7, 8, 9, 10, 11, 12, 13, 14, 15, 16, 17, 18]) (rest := []) (st := [.int l1, .ref 0]) (ws2 := wX2 11 q5 τ) (pc2 := 87) kX2_103 (c_X2_stop l q2 τ l1 q5 hq5) rfl rfl rfl rfl rfl rfl rfl rfl rfl rfl rfl rfl ?_
    refine hV.run 1 [] (ws' := wX2 11 q5 τ) (pc' := 95) (ls' := [(0, .ref 0), (1, .int l1), (2, .int l2), (3, .int l3), (4, .int l4), (5, .int l5)]) (st' := []) (ps := []) rfl trivial ?_
    cases h
    exact hV.rv rfl rfl rfl hP
def X2_receive (σ : am_M) (a1 : Int32) (a2 : Int32) (a3 : Int32) (a4 : Int32) : Option am_M := if (X3_kindOf (am_sub σ 11) (X2_get σ a1 0)) = 4 then (X2_receive_J37 (sC σ 0 (upd (upd (upd (σ 0) 12 a1) 13 (X2_get σ a1 0)) 14 a2)) a1 a2 a3 a4 (X2_get σ a1 0)) else (X2_receive_J37 σ a1 a2 a3 a4 (X2_get σ a1 0))
set_option maxRecDepth 100000 in
theorem c_X2_receive (l : Launch) (σ : am_M) (τ : Nat → Int64) (a1 : Int32) (a2 : Int32) (a3 : Int32) (a4 : Int32) (res : am_M) (h : X2_receive σ a1 a2 a3 a4 = some res) : am_Con l yX2_receive cX2_receive 6 none 3 [.ref 0, .int a1, .int a2, .int a3, .int a4] (wX2 11 σ τ) (fun (r : Option Value) (w : am_W) => r = none ∧ w = (wX2 11 res τ)) := by
  refine am_met (own := RX2) (cd := am_cdT' tX2_receive) (rf := am_rfL rfX2) (ini := false) (by decide +kernel) rfl (by decide) dX2_receive rfX2_ok (Nat.le_of_ble_eq_true rfl) ?_
  intro V hV
  have hP : (fun (r : Option Value) (w : am_W) => r = none ∧ w = (wX2 11 res τ)) none (wX2 11 res τ) := ⟨rfl, rfl⟩
  show V (wX2 11 σ τ) 0 [(0, .ref 0), (1, .int a1), (2, .int a2), (3, .int a3), (4, .int a4)] []
  unfold X2_receive at h
  refine hV.run 3 [] (ws' := wX2 11 σ τ) (pc' := 3) (ls' := [(0, .ref 0), (1, .int a1), (2, .int a2), (3, .int a3), (4, .int a4)]) (st' := [.int 0, .int a1, .ref 0]) (ps := []) rfl trivial ?_
  refine hV.cVi (as := [.int a1, .int 0]) (js := [0, 1, 2, 3, 4, 5, 6, 7, 8, 9, 10, 11, 12, 13, 14, 15, 16, 17, 18]) (rest := []) (st := [.int 0, .int a1, .ref 0]) (ws2 := wX2 11 σ τ) (pc2 := 6) kX2_81 (c_X2_get l σ τ a1 0) rfl rfl rfl rfl rfl rfl rfl rfl rfl rfl rfl rfl ?_
  refine hV.run 4 [] (ws' := wX2 11 σ τ) (pc' := 14) (ls' := [(5, .int (X2_get σ a1 0)), (0, .ref 0), (1, .int a1), (2, .int a2), (3, .int a3), (4, .int a4)]) (st' := [.int (X2_get σ a1 0), .ref 11]) (ps := []) rfl trivial ?_
  refine hV.cVi (as := [.int (X2_get σ a1 0)]) (js := [11, 12, 13, 14, 15, 16, 17, 18]) (rest := []) (st := [.int (X2_get σ a1 0), .ref 11]) (ws2 := wX2 11 σ τ) (pc2 := 17) kX2_89 (c_X3_kindOf l (am_sub σ 11) (X2_get σ a1 0)) rfl rfl rfl rfl rfl rfl rfl rfl rfl rfl rfl rfl ?_
  by_cases c1 : (X3_kindOf (am_sub σ 11) (X2_get σ a1 0)) = 4
  · rw [if_pos c1] at h
    refine hV.run 11 [0] (ws' := wX2 11 (sC σ 0 (upd (upd (upd (σ 0) 12 a1) 13 (X2_get σ a1 0)) 14 a2)) τ) (pc' := 37) (ls' := [(5, .int (X2_get σ a1 0)), (0, .ref 0), (1, .int a1), (2, .int a2), (3, .int a3), (4, .int a4)]) (st' := []) (ps := [(X3_kindOf (am_sub σ 11) (X2_get σ a1 0)) = 4]) rfl ⟨c1, trivial⟩ ?_
    refine hV.pick [1, 2, 3, 4, 5, 0] (ls' := [(0, .ref 0), (1, .int a1), (2, .int a2), (3, .int a3), (4, .int a4), (5, .int (X2_get σ a1 0))]) rfl ?_
    exact p_X2_receive_J37 hV τ res hP (sC σ 0 (upd (upd (upd (σ 0) 12 a1) 13 (X2_get σ a1 0)) 14 a2)) a1 a2 a3 a4 (X2_get σ a1 0) h
  · rw [if_neg c1] at h
    refine hV.run 2 [1] (ws' := wX2 11 σ τ) (pc' := 37) (ls' := [(5, .int (X2_get σ a1 0)), (0, .ref 0), (1, .int a1), (2, .int a2), (3, .int a3), (4, .int a4)]) (st' := []) (ps := [¬ (X3_kindOf (am_sub σ 11) (X2_get σ a1 0)) = 4]) rfl ⟨c1, trivial⟩ ?_
    refine hV.pick [1, 2, 3, 4, 5, 0] (ls' := [(0, .ref 0), (1, .int a1), (2, .int a2), (3, .int a3), (4, .int a4), (5, .int (X2_get σ a1 0))]) rfl ?_
    exact p_X2_receive_J37 hV τ res hP σ a1 a2 a3 a4 (X2_get σ a1 0) h

def X2_take_J77 (n : Nat) (σ : am_M) (l1 : Int32) (l2 : Int32) (l3 : Int32) : Option am_M := (X6_remove n (am_sub σ 2) l3).bind (fun q1 => (X2_receive (am_put σ 2 5 q1) l1 l2 (jat 320 (σ 5) l3) (X6_sizeAt (am_sub σ 2) l3)).bind (fun q2 => some q2))
set_option maxRecDepth 100000 in
theorem p_X2_take_J77 {l : Launch} {Post : Option Value → am_W → Prop} {V : am_VT} (hV : am_B l RX2 false 4 (am_cdT' tX2_take) (am_rfL rfX2) none Post 19 V) (n : Nat) (τ : Nat → Int64) (res : am_M) (hP : Post none (wX2 11 res τ)) (σ : am_M) (l1 : Int32) (l2 : Int32) (l3 : Int32) (h : X2_take_J77 n σ l1 l2 l3 = some res) : V (wX2 11 σ τ) 77 [(0, .ref 0), (1, .int l1), (2, .int l2), (3, .int l3)] [] := by
  unfold X2_take_J77 at h
  refine hV.run 4 [] (ws' := wX2 11 σ τ) (pc' := 85) (ls' := [(0, .ref 0), (1, .int l1), (2, .int l2), (3, .int l3)]) (st' := [.int l3, .ref 5]) (ps := []) rfl trivial ?_
  refine hV.cSi (as := [.ref 0, .int l3]) (js := [5]) (rest := []) (st := [.int l3, .ref 5]) (ws2 := wX2 11 σ τ) (pc2 := 88) kX2_110 (c_at l 1 320 (by decide) (σ 5) l3) rfl rfl rfl rfl rfl rfl rfl rfl rfl rfl ?_
  refine hV.run 4 [] (ws' := wX2 11 σ τ) (pc' := 95) (ls' := [(4, .int (jat 320 (σ 5) l3)), (0, .ref 0), (1, .int l1), (2, .int l2), (3, .int l3)]) (st' := [.int l3, .ref 2]) (ps := []) rfl trivial ?_
  refine hV.cVi (as := [.int l3]) (js := [2, 3, 4, 5, 6]) (rest := []) (st := [.int l3, .ref 2]) (ws2 := wX2 11 σ τ) (pc2 := 98) kX2_211 (c_X6_sizeAt l (am_sub σ 2) l3) rfl rfl rfl rfl rfl rfl rfl rfl rfl rfl rfl rfl ?_
  refine hV.run 4 [] (ws' := wX2 11 σ τ) (pc' := 105) (ls' := [(5, .int (X6_sizeAt (am_sub σ 2) l3)), (4, .int (jat 320 (σ 5) l3)), (0, .ref 0), (1, .int l1), (2, .int l2), (3, .int l3)]) (st' := [.int l3, .ref 2]) (ps := []) rfl trivial ?_
  obtain ⟨q1, hq1, h⟩ := am_bind h
  refine hV.cVv (as := [.int l3]) (js := [2, 3, 4, 5, 6]) (rest := []) (st := [.int l3, .ref 2]) (ws2 := wX2 11 (am_put σ 2 5 q1) τ) (pc2 := 108) kX2_214 (c_X6_remove l n (am_sub σ 2) l3 q1 hq1) rfl rfl rfl rfl rfl rfl rfl rfl rfl rfl rfl rfl ?_
  refine hV.run 5 [] (ws' := wX2 11 (am_put σ 2 5 q1) τ) (pc' := 115) (ls' := [(5, .int (X6_sizeAt (am_sub σ 2) l3)), (4, .int (jat 320 (σ 5) l3)), (0, .ref 0), (1, .int l1), (2, .int l2), (3, .int l3)]) (st' := [.int (X6_sizeAt (am_sub σ 2) l3), .int (jat 320 (σ 5) l3), .int l2, .int l1, .ref 0]) (ps := []) rfl trivial ?_
  obtain ⟨q2, hq2, h⟩ := am_bind h
  refine hV.cVv (as := [.int l1, .int l2, .int (jat 320 (σ 5) l3), .int (X6_sizeAt (am_sub σ 2) l3)]) (js := [0, 1, 2, 3, 4, 5, 6, 7, 8, 9, 10, 11, 12, 13, 14, 15, 16, 17, 18]) (rest := []) (st := [.int (X6_sizeAt (am_sub σ 2) l3), .int (jat 320 (σ 5) l3), .int l2, .int l1, .ref 0]) (ws2 := wX2 11 q2 τ) (pc2 := 118) kX2_217 (c_X2_receive l (am_put σ 2 5 q1) τ l1 l2 (jat 320 (σ 5) l3) (X6_sizeAt (am_sub σ 2) l3) q2 hq2) rfl rfl rfl rfl rfl rfl rfl rfl rfl rfl rfl rfl ?_
  cases h
  exact hV.rv rfl rfl rfl hP
def X2_take (n : Nat) (σ : am_M) (a1 : Int32) (a2 : Int32) : Option am_M := (X6_first n (am_sub σ 2) a2 a1 (X2_get σ a1 11)).bind (fun q1 => (X2_raise σ a1 (jat 320 (σ 6) q1)).bind (fun q2 => (X2_tick q2 a1 1).bind (fun q3 => if (X6_begunAt (am_sub q3 2) q1) = true then (X2_take_J77 n (sC q3 10 (jput 8 (q3 10) a2 (J9_max_7cf53 (jat 8 (q3 10) a2) (jat 8 (q3 8) a1)))) a1 a2 q1) else (X2_take_J77 n q3 a1 a2 q1))))
set_option maxRecDepth 100000 in
theorem c_X2_take (l : Launch) (n : Nat) (σ : am_M) (τ : Nat → Int64) (a1 : Int32) (a2 : Int32) (res : am_M) (h : X2_take n σ a1 a2 = some res) : am_Con l yX2_take cX2_take 6 none 4 [.ref 0, .int a1, .int a2] (wX2 11 σ τ) (fun (r : Option Value) (w : am_W) => r = none ∧ w = (wX2 11 res τ)) := by
  refine am_met (own := RX2) (cd := am_cdT' tX2_take) (rf := am_rfL rfX2) (ini := false) (by decide +kernel) rfl (by decide) dX2_take rfX2_ok (Nat.le_of_ble_eq_true rfl) ?_
  intro V hV
  have hP : (fun (r : Option Value) (w : am_W) => r = none ∧ w = (wX2 11 res τ)) none (wX2 11 res τ) := ⟨rfl, rfl⟩
  show V (wX2 11 σ τ) 0 [(0, .ref 0), (1, .int a1), (2, .int a2)] []
  unfold X2_take at h
  refine hV.run 7 [] (ws' := wX2 11 σ τ) (pc' := 10) (ls' := [(0, .ref 0), (1, .int a1), (2, .int a2)]) (st' := [.int 11, .int a1, .ref 0, .int a1, .int a2, .ref 2]) (ps := []) rfl trivial ?_
  refine hV.cVi (as := [.int a1, .int 11]) (js := [0, 1, 2, 3, 4, 5, 6, 7, 8, 9, 10, 11, 12, 13, 14, 15, 16, 17, 18]) (rest := [.int a1, .int a2, .ref 2]) (st := [.int 11, .int a1, .ref 0, .int a1, .int a2, .ref 2]) (ws2 := wX2 11 σ τ) (pc2 := 13) kX2_81 (c_X2_get l σ τ a1 11) rfl rfl rfl rfl rfl rfl rfl rfl rfl rfl rfl rfl ?_
  obtain ⟨q1, hq1, h⟩ := am_bind h
  refine hV.cVi (as := [.int a2, .int a1, .int (X2_get σ a1 11)]) (js := [2, 3, 4, 5, 6]) (rest := []) (st := [.int (X2_get σ a1 11), .int a1, .int a2, .ref 2]) (ws2 := wX2 11 σ τ) (pc2 := 16) kX2_151 (c_X6_first l n (am_sub σ 2) a2 a1 (X2_get σ a1 11) q1 hq1) rfl rfl rfl rfl rfl rfl rfl rfl rfl rfl rfl rfl ?_
  refine hV.run 7 [] (ws' := wX2 11 σ τ) (pc' := 27) (ls' := [(3, .int q1), (0, .ref 0), (1, .int a1), (2, .int a2)]) (st' := [.int q1, .ref 6, .int a1, .ref 0]) (ps := []) rfl trivial ?_
  refine hV.cSi (as := [.ref 0, .int q1]) (js := [6]) (rest := [.int a1, .ref 0]) (st := [.int q1, .ref 6, .int a1, .ref 0]) (ws2 := wX2 11 σ τ) (pc2 := 30) kX2_110 (c_at l 1 320 (by decide) (σ 6) q1) rfl rfl rfl rfl rfl rfl rfl rfl rfl rfl ?_
  obtain ⟨q2, hq2, h⟩ := am_bind h
  refine hV.cVv (as := [.int a1, .int (jat 320 (σ 6) q1)]) (js := [0, 1, 2, 3, 4, 5, 6, 7, 8, 9, 10, 11, 12, 13, 14, 15, 16, 17, 18]) (rest := []) (st := [.int (jat 320 (σ 6) q1), .int a1, .ref 0]) (ws2 := wX2 11 q2 τ) (pc2 := 33) kX2_172 (c_X2_raise l σ τ a1 (jat 320 (σ 6) q1) q2 hq2) rfl rfl rfl rfl rfl rfl rfl rfl rfl rfl rfl rfl ?_
  refine hV.run 3 [] (ws' := wX2 11 q2 τ) (pc' := 36) (ls' := [(3, .int q1), (0, .ref 0), (1, .int a1), (2, .int a2)]) (st' := [.int 1, .int a1, .ref 0]) (ps := []) rfl trivial ?_
  obtain ⟨q3, hq3, h⟩ := am_bind h
  refine hV.cVv (as := [.int a1, .int 1]) (js := [0, 1, 2, 3, 4, 5, 6, 7, 8, 9, 10, 11, 12, 13, 14, 15, 16, 17, 18]) (rest := []) (st := [.int 1, .int a1, .ref 0]) (ws2 := wX2 11 q3 τ) (pc2 := 39) kX2_175 (c_X2_tick l q2 τ a1 1 q3 hq3) rfl rfl rfl rfl rfl rfl rfl rfl rfl rfl rfl rfl ?_
  refine hV.run 3 [] (ws' := wX2 11 q3 τ) (pc' := 44) (ls' := [(3, .int q1), (0, .ref 0), (1, .int a1), (2, .int a2)]) (st' := [.int q1, .ref 2]) (ps := []) rfl trivial ?_
  refine hV.cVi (as := [.int q1]) (js := [2, 3, 4, 5, 6]) (rest := []) (st := [.int q1, .ref 2]) (ws2 := wX2 11 q3 τ) (pc2 := 47) kX2_200 (c_X6_begunAt l (am_sub q3 2) q1) rfl rfl rfl rfl rfl rfl rfl rfl rfl rfl rfl rfl ?_
  by_cases c4 : (X6_begunAt (am_sub q3 2) q1) = true
  · rw [if_pos c4] at h
    refine hV.run 7 [0] (ws' := wX2 11 q3 τ) (pc' := 60) (ls' := [(3, .int q1), (0, .ref 0), (1, .int a1), (2, .int a2)]) (st' := [.int a2, .ref 10, .int a2, .ref 10]) (ps := [¬ (b2i (X6_begunAt (am_sub q3 2) q1)) = 0]) rfl ⟨(b2i_t c4), trivial⟩ ?_
    refine hV.cSi (as := [.ref 0, .int a2]) (js := [10]) (rest := [.int a2, .ref 10]) (st := [.int a2, .ref 10, .int a2, .ref 10]) (ws2 := wX2 11 q3 τ) (pc2 := 63) kX2_110 (c_at l 1 8 (by decide) (q3 10) a2) rfl rfl rfl rfl rfl rfl rfl rfl rfl rfl ?_
    refine hV.run 3 [] (ws' := wX2 11 q3 τ) (pc' := 68) (ls' := [(3, .int q1), (0, .ref 0), (1, .int a1), (2, .int a2)]) (st' := [.int a1, .ref 8, .int (jat 8 (q3 10) a2), .int a2, .ref 10]) (ps := []) rfl trivial ?_
    refine hV.cSi (as := [.ref 0, .int a1]) (js := [8]) (rest := [.int (jat 8 (q3 10) a2), .int a2, .ref 10]) (st := [.int a1, .ref 8, .int (jat 8 (q3 10) a2), .int a2, .ref 10]) (ws2 := wX2 11 q3 τ) (pc2 := 71) kX2_110 (c_at l 1 8 (by decide) (q3 8) a1) rfl rfl rfl rfl rfl rfl rfl rfl rfl rfl ?_
    refine hV.cSi (as := [.int (jat 8 (q3 10) a2), .int (jat 8 (q3 8) a1)]) (js := []) (rest := [.int a2, .ref 10]) (st := [.int (jat 8 (q3 8) a1), .int (jat 8 (q3 10) a2), .int a2, .ref 10]) (ws2 := wX2 11 q3 τ) (pc2 := 74) kX2_203 (c_J9_max_7cf53 l (jat 8 (q3 10) a2) (jat 8 (q3 8) a1)) rfl rfl rfl rfl rfl rfl rfl rfl rfl rfl ?_
    refine hV.cSv (as := [.ref 0, .int a2, .int (J9_max_7cf53 (jat 8 (q3 10) a2) (jat 8 (q3 8) a1))]) (js := [10]) (rest := []) (st := [.int (J9_max_7cf53 (jat 8 (q3 10) a2) (jat 8 (q3 8) a1)), .int a2, .ref 10]) (ws2 := wX2 11 (sC q3 10 (jput 8 (q3 10) a2 (J9_max_7cf53 (jat 8 (q3 10) a2) (jat 8 (q3 8) a1)))) τ) (pc2 := 77) kX2_138 (c_put l 1 8 (by decide) (q3 10) a2 (J9_max_7cf53 (jat 8 (q3 10) a2) (jat 8 (q3 8) a1))) rfl rfl rfl rfl rfl rfl rfl rfl rfl rfl ?_
    refine hV.pick [1, 2, 3, 0] (ls' := [(0, .ref 0), (1, .int a1), (2, .int a2), (3, .int q1)]) rfl ?_
    exact p_X2_take_J77 hV n τ res hP (sC q3 10 (jput 8 (q3 10) a2 (J9_max_7cf53 (jat 8 (q3 10) a2) (jat 8 (q3 8) a1)))) a1 a2 q1 h
  · rw [if_neg c4] at h
    refine hV.run 1 [1] (ws' := wX2 11 q3 τ) (pc' := 77) (ls' := [(3, .int q1), (0, .ref 0), (1, .int a1), (2, .int a2)]) (st' := []) (ps := [(b2i (X6_begunAt (am_sub q3 2) q1)) = 0]) rfl ⟨(b2i_f c4), trivial⟩ ?_
    refine hV.pick [1, 2, 3, 0] (ls' := [(0, .ref 0), (1, .int a1), (2, .int a2), (3, .int q1)]) rfl ?_
    exact p_X2_take_J77 hV n τ res hP q3 a1 a2 q1 h

def X2_handOver (σ : am_M) (a1 : Int32) : Option am_M := (X2_raise σ a1 (J9_max_7cf53 (jat 8 (σ 8) a1) (jat 8 (σ 8) (X2_get σ a1 10)))).bind (fun q1 => (X2_raise q1 (X2_get σ a1 10) (J9_max_7cf53 (jat 8 (σ 8) a1) (jat 8 (σ 8) (X2_get σ a1 10)))).bind (fun q2 => (X2_tick q2 a1 (1 + (X2_far q2 a1 (X2_get σ a1 10)))).bind (fun q3 => (X2_tick q3 (X2_get σ a1 10) (1 + (X2_far q3 a1 (X2_get σ a1 10)))).bind (fun q4 => (X2_receive q4 (X2_get σ a1 10) a1 (X2_get q4 a1 12) (jat 40 (q4 16) (X2_get q4 a1 0))).bind (fun q5 => (X2_hasDone q5 a1).bind (fun q6 => some q6))))))
set_option maxRecDepth 100000 in
theorem c_X2_handOver (l : Launch) (σ : am_M) (τ : Nat → Int64) (a1 : Int32) (res : am_M) (h : X2_handOver σ a1 = some res) : am_Con l yX2_handOver cX2_handOver 4 none 4 [.ref 0, .int a1] (wX2 11 σ τ) (fun (r : Option Value) (w : am_W) => r = none ∧ w = (wX2 11 res τ)) := by
  refine am_met (own := RX2) (cd := am_cdT' tX2_handOver) (rf := am_rfL rfX2) (ini := false) (by decide +kernel) rfl (by decide) dX2_handOver rfX2_ok (Nat.le_of_ble_eq_true rfl) ?_
  intro V hV
  have hP : (fun (r : Option Value) (w : am_W) => r = none ∧ w = (wX2 11 res τ)) none (wX2 11 res τ) := ⟨rfl, rfl⟩
  show V (wX2 11 σ τ) 0 [(0, .ref 0), (1, .int a1)] []
  unfold X2_handOver at h
  refine hV.run 3 [] (ws' := wX2 11 σ τ) (pc' := 4) (ls' := [(0, .ref 0), (1, .int a1)]) (st' := [.int 10, .int a1, .ref 0]) (ps := []) rfl trivial ?_
  refine hV.cVi (as := [.int a1, .int 10]) (js := [0, 1, 2, 3, 4, 5, 6, 7, 8, 9, 10, 11, 12, 13, 14, 15, 16, 17, 18]) (rest := []) (st := [.int 10, .int a1, .ref 0]) (ws2 := wX2 11 σ τ) (pc2 := 7) kX2_81 (c_X2_get l σ τ a1 10) rfl rfl rfl rfl rfl rfl rfl rfl rfl rfl rfl rfl ?_
  refine hV.run 4 [] (ws' := wX2 11 σ τ) (pc' := 13) (ls' := [(2, .int (X2_get σ a1 10)), (0, .ref 0), (1, .int a1)]) (st' := [.int a1, .ref 8]) (ps := []) rfl trivial ?_
  refine hV.cSi (as := [.ref 0, .int a1]) (js := [8]) (rest := []) (st := [.int a1, .ref 8]) (ws2 := wX2 11 σ τ) (pc2 := 16) kX2_110 (c_at l 1 8 (by decide) (σ 8) a1) rfl rfl rfl rfl rfl rfl rfl rfl rfl rfl ?_
  refine hV.run 3 [] (ws' := wX2 11 σ τ) (pc' := 21) (ls' := [(2, .int (X2_get σ a1 10)), (0, .ref 0), (1, .int a1)]) (st' := [.int (X2_get σ a1 10), .ref 8, .int (jat 8 (σ 8) a1)]) (ps := []) rfl trivial ?_
  refine hV.cSi (as := [.ref 0, .int (X2_get σ a1 10)]) (js := [8]) (rest := [.int (jat 8 (σ 8) a1)]) (st := [.int (X2_get σ a1 10), .ref 8, .int (jat 8 (σ 8) a1)]) (ws2 := wX2 11 σ τ) (pc2 := 24) kX2_110 (c_at l 1 8 (by decide) (σ 8) (X2_get σ a1 10)) rfl rfl rfl rfl rfl rfl rfl rfl rfl rfl ?_
  refine hV.cSi (as := [.int (jat 8 (σ 8) a1), .int (jat 8 (σ 8) (X2_get σ a1 10))]) (js := []) (rest := []) (st := [.int (jat 8 (σ 8) (X2_get σ a1 10)), .int (jat 8 (σ 8) a1)]) (ws2 := wX2 11 σ τ) (pc2 := 27) kX2_203 (c_J9_max_7cf53 l (jat 8 (σ 8) a1) (jat 8 (σ 8) (X2_get σ a1 10))) rfl rfl rfl rfl rfl rfl rfl rfl rfl rfl ?_
  refine hV.run 4 [] (ws' := wX2 11 σ τ) (pc' := 31) (ls' := [(3, .int (J9_max_7cf53 (jat 8 (σ 8) a1) (jat 8 (σ 8) (X2_get σ a1 10)))), (2, .int (X2_get σ a1 10)), (0, .ref 0), (1, .int a1)]) (st' := [.int (J9_max_7cf53 (jat 8 (σ 8) a1) (jat 8 (σ 8) (X2_get σ a1 10))), .int a1, .ref 0]) (ps := []) rfl trivial ?_
  obtain ⟨q1, hq1, h⟩ := am_bind h
  refine hV.cVv (as := [.int a1, .int (J9_max_7cf53 (jat 8 (σ 8) a1) (jat 8 (σ 8) (X2_get σ a1 10)))]) (js := [0, 1, 2, 3, 4, 5, 6, 7, 8, 9, 10, 11, 12, 13, 14, 15, 16, 17, 18]) (rest := []) (st := [.int (J9_max_7cf53 (jat 8 (σ 8) a1) (jat 8 (σ 8) (X2_get σ a1 10))), .int a1, .ref 0]) (ws2 := wX2 11 q1 τ) (pc2 := 34) kX2_172 (c_X2_raise l σ τ a1 (J9_max_7cf53 (jat 8 (σ 8) a1) (jat 8 (σ 8) (X2_get σ a1 10))) q1 hq1) rfl rfl rfl rfl rfl rfl rfl rfl rfl rfl rfl rfl ?_
  refine hV.run 3 [] (ws' := wX2 11 q1 τ) (pc' := 37) (ls' := [(3, .int (J9_max_7cf53 (jat 8 (σ 8) a1) (jat 8 (σ 8) (X2_get σ a1 10)))), (2, .int (X2_get σ a1 10)), (0, .ref 0), (1, .int a1)]) (st' := [.int (J9_max_7cf53 (jat 8 (σ 8) a1) (jat 8 (σ 8) (X2_get σ a1 10))), .int (X2_get σ a1 10), .ref 0]) (ps := []) rfl trivial ?_
  obtain ⟨q2, hq2, h⟩ := am_bind h
  refine hV.cVv (as := [.int (X2_get σ a1 10), .int (J9_max_7cf53 (jat 8 (σ 8) a1) (jat 8 (σ 8) (X2_get σ a1 10)))]) (js := [0, 1, 2, 3, 4, 5, 6, 7, 8, 9, 10, 11, 12, 13, 14, 15, 16, 17, 18]) (rest := []) (st := [.int (J9_max_7cf53 (jat 8 (σ 8) a1) (jat 8 (σ 8) (X2_get σ a1 10))), .int (X2_get σ a1 10), .ref 0]) (ws2 := wX2 11 q2 τ) (pc2 := 40) kX2_172 (c_X2_raise l q1 τ (X2_get σ a1 10) (J9_max_7cf53 (jat 8 (σ 8) a1) (jat 8 (σ 8) (X2_get σ a1 10))) q2 hq2) rfl rfl rfl rfl rfl rfl rfl rfl rfl rfl rfl rfl ?_
  refine hV.run 6 [] (ws' := wX2 11 q2 τ) (pc' := 46) (ls' := [(3, .int (J9_max_7cf53 (jat 8 (σ 8) a1) (jat 8 (σ 8) (X2_get σ a1 10)))), (2, .int (X2_get σ a1 10)), (0, .ref 0), (1, .int a1)]) (st' := [.int (X2_get σ a1 10), .int a1, .ref 0, .int 1, .int a1, .ref 0]) (ps := []) rfl trivial ?_
  refine hV.cVi (as := [.int a1, .int (X2_get σ a1 10)]) (js := [0, 1, 2, 3, 4, 5, 6, 7, 8, 9, 10, 11, 12, 13, 14, 15, 16, 17, 18]) (rest := [.int 1, .int a1, .ref 0]) (st := [.int (X2_get σ a1 10), .int a1, .ref 0, .int 1, .int a1, .ref 0]) (ws2 := wX2 11 q2 τ) (pc2 := 49) kX2_187 (c_X2_far l q2 τ a1 (X2_get σ a1 10)) rfl rfl rfl rfl rfl rfl rfl rfl rfl rfl rfl rfl ?_
  refine hV.run 1 [] (ws' := wX2 11 q2 τ) (pc' := 50) (ls' := [(3, .int (J9_max_7cf53 (jat 8 (σ 8) a1) (jat 8 (σ 8) (X2_get σ a1 10)))), (2, .int (X2_get σ a1 10)), (0, .ref 0), (1, .int a1)]) (st' := [.int (1 + (X2_far q2 a1 (X2_get σ a1 10))), .int a1, .ref 0]) (ps := []) rfl trivial ?_
  obtain ⟨q3, hq3, h⟩ := am_bind h
  refine hV.cVv (as := [.int a1, .int (1 + (X2_far q2 a1 (X2_get σ a1 10)))]) (js := [0, 1, 2, 3, 4, 5, 6, 7, 8, 9, 10, 11, 12, 13, 14, 15, 16, 17, 18]) (rest := []) (st := [.int (1 + (X2_far q2 a1 (X2_get σ a1 10))), .int a1, .ref 0]) (ws2 := wX2 11 q3 τ) (pc2 := 53) kX2_175 (c_X2_tick l q2 τ a1 (1 + (X2_far q2 a1 (X2_get σ a1 10))) q3 hq3) rfl rfl rfl rfl rfl rfl rfl rfl rfl rfl rfl rfl ?_
  refine hV.run 6 [] (ws' := wX2 11 q3 τ) (pc' := 59) (ls' := [(3, .int (J9_max_7cf53 (jat 8 (σ 8) a1) (jat 8 (σ 8) (X2_get σ a1 10)))), (2, .int (X2_get σ a1 10)), (0, .ref 0), (1, .int a1)]) (st' := [.int (X2_get σ a1 10), .int a1, .ref 0, .int 1, .int (X2_get σ a1 10), .ref 0]) (ps := []) rfl trivial ?_
  refine hV.cVi (as := [.int a1, .int (X2_get σ a1 10)]) (js := [0, 1, 2, 3, 4, 5, 6, 7, 8, 9, 10, 11, 12, 13, 14, 15, 16, 17, 18]) (rest := [.int 1, .int (X2_get σ a1 10), .ref 0]) (st := [.int (X2_get σ a1 10), .int a1, .ref 0, .int 1, .int (X2_get σ a1 10), .ref 0]) (ws2 := wX2 11 q3 τ) (pc2 := 62) kX2_187 (c_X2_far l q3 τ a1 (X2_get σ a1 10)) rfl rfl rfl rfl rfl rfl rfl rfl rfl rfl rfl rfl ?_
  refine hV.run 1 [] (ws' := wX2 11 q3 τ) (pc' := 63) (ls' := [(3, .int (J9_max_7cf53 (jat 8 (σ 8) a1) (jat 8 (σ 8) (X2_get σ a1 10)))), (2, .int (X2_get σ a1 10)), (0, .ref 0), (1, .int a1)]) (st' := [.int (1 + (X2_far q3 a1 (X2_get σ a1 10))), .int (X2_get σ a1 10), .ref 0]) (ps := []) rfl trivial ?_
  obtain ⟨q4, hq4, h⟩ := am_bind h
  refine hV.cVv (as := [.int (X2_get σ a1 10), .int (1 + (X2_far q3 a1 (X2_get σ a1 10)))]) (js := [0, 1, 2, 3, 4, 5, 6, 7, 8, 9, 10, 11, 12, 13, 14, 15, 16, 17, 18]) (rest := []) (st := [.int (1 + (X2_far q3 a1 (X2_get σ a1 10))), .int (X2_get σ a1 10), .ref 0]) (ws2 := wX2 11 q4 τ) (pc2 := 66) kX2_175 (c_X2_tick l q3 τ (X2_get σ a1 10) (1 + (X2_far q3 a1 (X2_get σ a1 10))) q4 hq4) rfl rfl rfl rfl rfl rfl rfl rfl rfl rfl rfl rfl ?_
  refine hV.run 6 [] (ws' := wX2 11 q4 τ) (pc' := 73) (ls' := [(3, .int (J9_max_7cf53 (jat 8 (σ 8) a1) (jat 8 (σ 8) (X2_get σ a1 10)))), (2, .int (X2_get σ a1 10)), (0, .ref 0), (1, .int a1)]) (st' := [.int 12, .int a1, .ref 0, .int a1, .int (X2_get σ a1 10), .ref 0]) (ps := []) rfl trivial ?_
  refine hV.cVi (as := [.int a1, .int 12]) (js := [0, 1, 2, 3, 4, 5, 6, 7, 8, 9, 10, 11, 12, 13, 14, 15, 16, 17, 18]) (rest := [.int a1, .int (X2_get σ a1 10), .ref 0]) (st := [.int 12, .int a1, .ref 0, .int a1, .int (X2_get σ a1 10), .ref 0]) (ws2 := wX2 11 q4 τ) (pc2 := 76) kX2_81 (c_X2_get l q4 τ a1 12) rfl rfl rfl rfl rfl rfl rfl rfl rfl rfl rfl rfl ?_
  refine hV.run 6 [] (ws' := wX2 11 q4 τ) (pc' := 86) (ls' := [(3, .int (J9_max_7cf53 (jat 8 (σ 8) a1) (jat 8 (σ 8) (X2_get σ a1 10)))), (2, .int (X2_get σ a1 10)), (0, .ref 0), (1, .int a1)]) (st' := [.int 0, .int a1, .ref 0, .ref 16, .int (X2_get q4 a1 12), .int a1, .int (X2_get σ a1 10), .ref 0]) (ps := []) rfl trivial ?_
  refine hV.cVi (as := [.int a1, .int 0]) (js := [0, 1, 2, 3, 4, 5, 6, 7, 8, 9, 10, 11, 12, 13, 14, 15, 16, 17, 18]) (rest := [.ref 16, .int (X2_get q4 a1 12), .int a1, .int (X2_get σ a1 10), .ref 0]) (st := [.int 0, .int a1, .ref 0, .ref 16, .int (X2_get q4 a1 12), .int a1, .int (X2_get σ a1 10), .ref 0]) (ws2 := wX2 11 q4 τ) (pc2 := 89) kX2_81 (c_X2_get l q4 τ a1 0) rfl rfl rfl rfl rfl rfl rfl rfl rfl rfl rfl rfl ?_
  refine hV.cSi (as := [.ref 0, .int (X2_get q4 a1 0)]) (js := [16]) (rest := [.int (X2_get q4 a1 12), .int a1, .int (X2_get σ a1 10), .ref 0]) (st := [.int (X2_get q4 a1 0), .ref 16, .int (X2_get q4 a1 12), .int a1, .int (X2_get σ a1 10), .ref 0]) (ws2 := wX2 11 q4 τ) (pc2 := 92) kX2_110 (c_at l 1 40 (by decide) (q4 16) (X2_get q4 a1 0)) rfl rfl rfl rfl rfl rfl rfl rfl rfl rfl ?_
  obtain ⟨q5, hq5, h⟩ := am_bind h
  refine hV.cVv (as := [.int (X2_get σ a1 10), .int a1, .int (X2_get q4 a1 12), .int (jat 40 (q4 16) (X2_get q4 a1 0))]) (js := [0, 1, 2, 3, 4, 5, 6, 7, 8, 9, 10, 11, 12, 13, 14, 15, 16, 17, 18]) (rest := []) (st := [.int (jat 40 (q4 16) (X2_get q4 a1 0)), .int (X2_get q4 a1 12), .int a1, .int (X2_get σ a1 10), .ref 0]) (ws2 := wX2 11 q5 τ) (pc2 := 95) kX2_217 (c_X2_receive l q4 τ (X2_get σ a1 10) a1 (X2_get q4 a1 12) (jat 40 (q4 16) (X2_get q4 a1 0)) q5 hq5) rfl rfl rfl rfl rfl rfl rfl rfl rfl rfl rfl rfl ?_
  refine hV.run 2 [] (ws' := wX2 11 q5 τ) (pc' := 97) (ls' := [(3, .int (J9_max_7cf53 (jat 8 (σ 8) a1) (jat 8 (σ 8) (X2_get σ a1 10)))), (2, .int (X2_get σ a1 10)), (0, .ref 0), (1, .int a1)]) (st' := [.int a1, .ref 0]) (ps := []) rfl trivial ?_
  obtain ⟨q6, hq6, h⟩ := am_bind h
  refine hV.cVv (as := [.int a1]) (js := [0, 1, 2, 3, 4, 5, 6, 7, 8, 9, 10, 11, 12, 13, 14, 15, 16, 17, 18]) (rest := []) (st := [.int a1, .ref 0]) (ws2 := wX2 11 q6 τ) (pc2 := 100) kX2_178 (c_X2_hasDone l q5 τ a1 q6 hq6) rfl rfl rfl rfl rfl rfl rfl rfl rfl rfl rfl rfl ?_
  cases h
  exact hV.rv rfl rfl rfl hP

def X2_goTogether_J105 (n : Nat) (kont50 : am_M → Int32 → Int32 → Int32 → Int32 → Option am_M) (σ : am_M) (l1 : Int32) (l2 : Int32) (l3 : Int32) (l4 : Int32) : Option am_M := (X2_hasDone σ l4).bind (fun q1 => kont50 q1 l1 l2 l3 (l4 + 1))
set_option maxRecDepth 100000 in
theorem p_X2_goTogether_J105 {l : Launch} {Post : Option Value → am_W → Prop} {V : am_VT} (hV : am_B l RX2 false 4 (am_cdT' tX2_goTogether) (am_rfL rfX2) none Post 19 V) (n : Nat) (τ : Nat → Int64) (res : am_M) (hP : Post none (wX2 11 res τ)) (kont50 : am_M → Int32 → Int32 → Int32 → Int32 → Option am_M) (hk50 : ∀ (σ : am_M) (l1 : Int32) (l2 : Int32) (l3 : Int32) (l4 : Int32), kont50 σ l1 l2 l3 l4 = some res → V (wX2 11 σ τ) 50 [(0, .ref 0), (1, .int l1), (2, .int l2), (3, .int l3), (4, .int l4)] []) (σ : am_M) (l1 : Int32) (l2 : Int32) (l3 : Int32) (l4 : Int32) (h : X2_goTogether_J105 n kont50 σ l1 l2 l3 l4 = some res) : V (wX2 11 σ τ) 105 [(0, .ref 0), (1, .int l1), (2, .int l2), (3, .int l3), (4, .int l4)] [] := by
  unfold X2_goTogether_J105 at h
  refine hV.run 2 [] (ws' := wX2 11 σ τ) (pc' := 108) (ls' := [(0, .ref 0), (1, .int l1), (2, .int l2), (3, .int l3), (4, .int l4)]) (st' := [.int l4, .ref 0]) (ps := []) rfl trivial ?_
  obtain ⟨q1, hq1, h⟩ := am_bind h
  refine hV.cVv (as := [.int l4]) (js := [0, 1, 2, 3, 4, 5, 6, 7, 8, 9, 10, 11, 12, 13, 14, 15, 16, 17, 18]) (rest := []) (st := [.int l4, .ref 0]) (ws2 := wX2 11 q1 τ) (pc2 := 111) kX2_178 (c_X2_hasDone l σ τ l4 q1 hq1) rfl rfl rfl rfl rfl rfl rfl rfl rfl rfl rfl rfl ?_
  refine hV.run 2 [] (ws' := wX2 11 q1 τ) (pc' := 50) (ls' := [(4, .int (l4 + 1)), (0, .ref 0), (1, .int l1), (2, .int l2), (3, .int l3)]) (st' := []) (ps := []) rfl trivial ?_
  refine hV.pick [1, 2, 3, 4, 0] (ls' := [(0, .ref 0), (1, .int l1), (2, .int l2), (3, .int l3), (4, .int (l4 + 1))]) rfl ?_
  exact hk50 q1 l1 l2 l3 (l4 + 1) h
def X2_goTogether_B50 (n : Nat) (kont50 : am_M → Int32 → Int32 → Int32 → Int32 → Option am_M) (σ : am_M) (l1 : Int32) (l2 : Int32) (l3 : Int32) (l4 : Int32) : Option am_M := if (σ 0 1) ≤ l4 then (some σ) else (X2_raise σ l4 l2).bind (fun q2 => (X2_tick q2 l4 1).bind (fun q3 => if l1 = 7 then (X2_set q3 l4 (2 + (jat 40 (q3 15) (X2_get q3 l4 0))) l3).bind (fun q5 => X2_goTogether_J105 n kont50 q5 l1 l2 l3 l4) else (X2_goTogether_J105 n kont50 q3 l1 l2 l3 l4)))
def X2_goTogether_L50 (n : Nat) : Nat → am_M → Int32 → Int32 → Int32 → Int32 → Option am_M
 | 0 => fun _ _ _ _ _ => none
 | k + 1 => fun σ l1 l2 l3 l4 => X2_goTogether_B50 n (X2_goTogether_L50 n k) σ l1 l2 l3 l4
set_option maxRecDepth 100000 in
theorem p_X2_goTogether_B50 {l : Launch} {Post : Option Value → am_W → Prop} {V : am_VT} (hV : am_B l RX2 false 4 (am_cdT' tX2_goTogether) (am_rfL rfX2) none Post 19 V) (n : Nat) (τ : Nat → Int64) (res : am_M) (hP : Post none (wX2 11 res τ)) (kont50 : am_M → Int32 → Int32 → Int32 → Int32 → Option am_M) (hk50 : ∀ (σ : am_M) (l1 : Int32) (l2 : Int32) (l3 : Int32) (l4 : Int32), kont50 σ l1 l2 l3 l4 = some res → V (wX2 11 σ τ) 50 [(0, .ref 0), (1, .int l1), (2, .int l2), (3, .int l3), (4, .int l4)] []) (σ : am_M) (l1 : Int32) (l2 : Int32) (l3 : Int32) (l4 : Int32) (h : X2_goTogether_B50 n kont50 σ l1 l2 l3 l4 = some res) : V (wX2 11 σ τ) 50 [(0, .ref 0), (1, .int l1), (2, .int l2), (3, .int l3), (4, .int l4)] [] := by
  unfold X2_goTogether_B50 at h
  by_cases c1 : (σ 0 1) ≤ l4
  · rw [if_pos c1] at h
    refine hV.run 4 [1] (ws' := wX2 11 σ τ) (pc' := 117) (ls' := [(0, .ref 0), (1, .int l1), (2, .int l2), (3, .int l3), (4, .int l4)]) (st' := []) (ps := [(σ 0 1) ≤ l4]) rfl ⟨c1, trivial⟩ ?_
    cases h
    exact hV.rv rfl rfl rfl hP
  · rw [if_neg c1] at h
    refine hV.run 7 [0] (ws' := wX2 11 σ τ) (pc' := 63) (ls' := [(0, .ref 0), (1, .int l1), (2, .int l2), (3, .int l3), (4, .int l4)]) (st' := [.int l2, .int l4, .ref 0]) (ps := [¬ (σ 0 1) ≤ l4]) rfl ⟨c1, trivial⟩ ?_
    obtain ⟨q2, hq2, h⟩ := am_bind h
    refine hV.cVv (as := [.int l4, .int l2]) (js := [0, 1, 2, 3, 4, 5, 6, 7, 8, 9, 10, 11, 12, 13, 14, 15, 16, 17, 18]) (rest := []) (st := [.int l2, .int l4, .ref 0]) (ws2 := wX2 11 q2 τ) (pc2 := 66) kX2_172 (c_X2_raise l σ τ l4 l2 q2 hq2) rfl rfl rfl rfl rfl rfl rfl rfl rfl rfl rfl rfl ?_
    refine hV.run 3 [] (ws' := wX2 11 q2 τ) (pc' := 70) (ls' := [(0, .ref 0), (1, .int l1), (2, .int l2), (3, .int l3), (4, .int l4)]) (st' := [.int 1, .int l4, .ref 0]) (ps := []) rfl trivial ?_
    obtain ⟨q3, hq3, h⟩ := am_bind h
    refine hV.cVv (as := [.int l4, .int 1]) (js := [0, 1, 2, 3, 4, 5, 6, 7, 8, 9, 10, 11, 12, 13, 14, 15, 16, 17, 18]) (rest := []) (st := [.int 1, .int l4, .ref 0]) (ws2 := wX2 11 q3 τ) (pc2 := 73) kX2_175 (c_X2_tick l q2 τ l4 1 q3 hq3) rfl rfl rfl rfl rfl rfl rfl rfl rfl rfl rfl rfl ?_
    by_cases c4 : l1 = 7
    · rw [if_pos c4] at h
      refine hV.run 12 [0] (ws' := wX2 11 q3 τ) (pc' := 94) (ls' := [(0, .ref 0), (1, .int l1), (2, .int l2), (3, .int l3), (4, .int l4)]) (st' := [.int 0, .int l4, .ref 0, .ref 15, .int 2, .int l4, .ref 0]) (ps := [l1 = 7]) rfl ⟨c4, trivial⟩ ?_
      refine hV.cVi (as := [.int l4, .int 0]) (js := [0, 1, 2, 3, 4, 5, 6, 7, 8, 9, 10, 11, 12, 13, 14, 15, 16, 17, 18]) (rest := [.ref 15, .int 2, .int l4, .ref 0]) (st := [.int 0, .int l4, .ref 0, .ref 15, .int 2, .int l4, .ref 0]) (ws2 := wX2 11 q3 τ) (pc2 := 97) kX2_81 (c_X2_get l q3 τ l4 0) rfl rfl rfl rfl rfl rfl rfl rfl rfl rfl rfl rfl ?_
      refine hV.cSi (as := [.ref 0, .int (X2_get q3 l4 0)]) (js := [15]) (rest := [.int 2, .int l4, .ref 0]) (st := [.int (X2_get q3 l4 0), .ref 15, .int 2, .int l4, .ref 0]) (ws2 := wX2 11 q3 τ) (pc2 := 100) kX2_110 (c_at l 1 40 (by decide) (q3 15) (X2_get q3 l4 0)) rfl rfl rfl rfl rfl rfl rfl rfl rfl rfl ?_
      refine hV.run 2 [] (ws' := wX2 11 q3 τ) (pc' := 102) (ls' := [(0, .ref 0), (1, .int l1), (2, .int l2), (3, .int l3), (4, .int l4)]) (st' := [.int l3, .int (2 + (jat 40 (q3 15) (X2_get q3 l4 0))), .int l4, .ref 0]) (ps := []) rfl trivial ?_
      obtain ⟨q5, hq5, h⟩ := am_bind h
      refine hV.cVv (as := [.int l4, .int (2 + (jat 40 (q3 15) (X2_get q3 l4 0))), .int l3]) (js := [0, 1, 2, 3, 4, 5, 6, 7, 8, 9, 10, 11, 12, 13, 14, 15, 16, 17, 18]) (rest := []) (st := [.int l3, .int (2 + (jat 40 (q3 15) (X2_get q3 l4 0))), .int l4, .ref 0]) (ws2 := wX2 11 q5 τ) (pc2 := 105) kX2_73 (c_X2_set l q3 τ l4 (2 + (jat 40 (q3 15) (X2_get q3 l4 0))) l3 q5 hq5) rfl rfl rfl rfl rfl rfl rfl rfl rfl rfl rfl rfl ?_
      exact p_X2_goTogether_J105 hV n τ res hP kont50 hk50 q5 l1 l2 l3 l4 h
    · rw [if_neg c4] at h
      refine hV.run 3 [1] (ws' := wX2 11 q3 τ) (pc' := 105) (ls' := [(0, .ref 0), (1, .int l1), (2, .int l2), (3, .int l3), (4, .int l4)]) (st' := []) (ps := [¬ l1 = 7]) rfl ⟨c4, trivial⟩ ?_
      exact p_X2_goTogether_J105 hV n τ res hP kont50 hk50 q3 l1 l2 l3 l4 h
theorem p_X2_goTogether_L50 {l : Launch} {Post : Option Value → am_W → Prop} {V : am_VT} (hV : am_B l RX2 false 4 (am_cdT' tX2_goTogether) (am_rfL rfX2) none Post 19 V) (n : Nat) (τ : Nat → Int64) (res : am_M) (hP : Post none (wX2 11 res τ)) : ∀ (k : Nat) (σ : am_M) (l1 : Int32) (l2 : Int32) (l3 : Int32) (l4 : Int32) (h : X2_goTogether_L50 n k σ l1 l2 l3 l4 = some res), V (wX2 11 σ τ) 50 [(0, .ref 0), (1, .int l1), (2, .int l2), (3, .int l3), (4, .int l4)] [] := by
  intro k
  induction k with
  | zero => intro σ l1 l2 l3 l4 h; cases h
  | succ k ih => intro σ l1 l2 l3 l4 h; exact p_X2_goTogether_B50 hV n τ res hP _ ih σ l1 l2 l3 l4 h
def X2_goTogether_B7 (n : Nat) (kont7 : am_M → Int32 → Int32 → Int32 → Int32 → Option am_M) (σ : am_M) (l1 : Int32) (l2 : Int32) (l3 : Int32) (l4 : Int32) : Option am_M := if (σ 0 1) ≤ l4 then (X2_goTogether_L50 n n σ l1 l2 l3 0) else (kont7 σ l1 (J9_max_7cf53 l2 (jat 8 (σ 8) l4)) (l3 + (X2_get σ l4 12)) (l4 + 1))
def X2_goTogether_L7 (n : Nat) : Nat → am_M → Int32 → Int32 → Int32 → Int32 → Option am_M
 | 0 => fun _ _ _ _ _ => none
 | k + 1 => fun σ l1 l2 l3 l4 => X2_goTogether_B7 n (X2_goTogether_L7 n k) σ l1 l2 l3 l4
set_option maxRecDepth 100000 in
theorem p_X2_goTogether_B7 {l : Launch} {Post : Option Value → am_W → Prop} {V : am_VT} (hV : am_B l RX2 false 4 (am_cdT' tX2_goTogether) (am_rfL rfX2) none Post 19 V) (n : Nat) (τ : Nat → Int64) (res : am_M) (hP : Post none (wX2 11 res τ)) (kont7 : am_M → Int32 → Int32 → Int32 → Int32 → Option am_M) (hk7 : ∀ (σ : am_M) (l1 : Int32) (l2 : Int32) (l3 : Int32) (l4 : Int32), kont7 σ l1 l2 l3 l4 = some res → V (wX2 11 σ τ) 7 [(0, .ref 0), (1, .int l1), (2, .int l2), (3, .int l3), (4, .int l4)] []) (σ : am_M) (l1 : Int32) (l2 : Int32) (l3 : Int32) (l4 : Int32) (h : X2_goTogether_B7 n kont7 σ l1 l2 l3 l4 = some res) : V (wX2 11 σ τ) 7 [(0, .ref 0), (1, .int l1), (2, .int l2), (3, .int l3), (4, .int l4)] [] := by
  unfold X2_goTogether_B7 at h
  by_cases c1 : (σ 0 1) ≤ l4
  · rw [if_pos c1] at h
    refine hV.run 6 [1] (ws' := wX2 11 σ τ) (pc' := 50) (ls' := [(4, .int 0), (0, .ref 0), (1, .int l1), (2, .int l2), (3, .int l3)]) (st' := []) (ps := [(σ 0 1) ≤ l4]) rfl ⟨c1, trivial⟩ ?_
    refine hV.pick [1, 2, 3, 4, 0] (ls' := [(0, .ref 0), (1, .int l1), (2, .int l2), (3, .int l3), (4, .int 0)]) rfl ?_
    exact p_X2_goTogether_L50 hV n τ res hP n σ l1 l2 l3 0 h
  · rw [if_neg c1] at h
    refine hV.run 8 [0] (ws' := wX2 11 σ τ) (pc' := 23) (ls' := [(0, .ref 0), (1, .int l1), (2, .int l2), (3, .int l3), (4, .int l4)]) (st' := [.int l4, .ref 8, .int l2]) (ps := [¬ (σ 0 1) ≤ l4]) rfl ⟨c1, trivial⟩ ?_
    refine hV.cSi (as := [.ref 0, .int l4]) (js := [8]) (rest := [.int l2]) (st := [.int l4, .ref 8, .int l2]) (ws2 := wX2 11 σ τ) (pc2 := 26) kX2_110 (c_at l 1 8 (by decide) (σ 8) l4) rfl rfl rfl rfl rfl rfl rfl rfl rfl rfl ?_
    refine hV.cSi (as := [.int l2, .int (jat 8 (σ 8) l4)]) (js := []) (rest := []) (st := [.int (jat 8 (σ 8) l4), .int l2]) (ws2 := wX2 11 σ τ) (pc2 := 29) kX2_203 (c_J9_max_7cf53 l l2 (jat 8 (σ 8) l4)) rfl rfl rfl rfl rfl rfl rfl rfl rfl rfl ?_
    refine hV.run 5 [] (ws' := wX2 11 σ τ) (pc' := 36) (ls' := [(2, .int (J9_max_7cf53 l2 (jat 8 (σ 8) l4))), (0, .ref 0), (1, .int l1), (3, .int l3), (4, .int l4)]) (st' := [.int 12, .int l4, .ref 0, .int l3]) (ps := []) rfl trivial ?_
    refine hV.cVi (as := [.int l4, .int 12]) (js := [0, 1, 2, 3, 4, 5, 6, 7, 8, 9, 10, 11, 12, 13, 14, 15, 16, 17, 18]) (rest := [.int l3]) (st := [.int 12, .int l4, .ref 0, .int l3]) (ws2 := wX2 11 σ τ) (pc2 := 39) kX2_81 (c_X2_get l σ τ l4 12) rfl rfl rfl rfl rfl rfl rfl rfl rfl rfl rfl rfl ?_
    refine hV.run 4 [] (ws' := wX2 11 σ τ) (pc' := 7) (ls' := [(4, .int (l4 + 1)), (3, .int (l3 + (X2_get σ l4 12))), (2, .int (J9_max_7cf53 l2 (jat 8 (σ 8) l4))), (0, .ref 0), (1, .int l1)]) (st' := []) (ps := []) rfl trivial ?_
    refine hV.pick [3, 4, 2, 1, 0] (ls' := [(0, .ref 0), (1, .int l1), (2, .int (J9_max_7cf53 l2 (jat 8 (σ 8) l4))), (3, .int (l3 + (X2_get σ l4 12))), (4, .int (l4 + 1))]) rfl ?_
    exact hk7 σ l1 (J9_max_7cf53 l2 (jat 8 (σ 8) l4)) (l3 + (X2_get σ l4 12)) (l4 + 1) h
theorem p_X2_goTogether_L7 {l : Launch} {Post : Option Value → am_W → Prop} {V : am_VT} (hV : am_B l RX2 false 4 (am_cdT' tX2_goTogether) (am_rfL rfX2) none Post 19 V) (n : Nat) (τ : Nat → Int64) (res : am_M) (hP : Post none (wX2 11 res τ)) : ∀ (k : Nat) (σ : am_M) (l1 : Int32) (l2 : Int32) (l3 : Int32) (l4 : Int32) (h : X2_goTogether_L7 n k σ l1 l2 l3 l4 = some res), V (wX2 11 σ τ) 7 [(0, .ref 0), (1, .int l1), (2, .int l2), (3, .int l3), (4, .int l4)] [] := by
  intro k
  induction k with
  | zero => intro σ l1 l2 l3 l4 h; cases h
  | succ k ih => intro σ l1 l2 l3 l4 h; exact p_X2_goTogether_B7 hV n τ res hP _ ih σ l1 l2 l3 l4 h
def X2_goTogether (n : Nat) (σ : am_M) (a1 : Int32) : Option am_M := X2_goTogether_L7 n n σ a1 0 0 0
set_option maxRecDepth 100000 in
theorem c_X2_goTogether (l : Launch) (n : Nat) (σ : am_M) (τ : Nat → Int64) (a1 : Int32) (res : am_M) (h : X2_goTogether n σ a1 = some res) : am_Con l yX2_goTogether cX2_goTogether 5 none 4 [.ref 0, .int a1] (wX2 11 σ τ) (fun (r : Option Value) (w : am_W) => r = none ∧ w = (wX2 11 res τ)) := by
  refine am_met (own := RX2) (cd := am_cdT' tX2_goTogether) (rf := am_rfL rfX2) (ini := false) (by decide +kernel) rfl (by decide) dX2_goTogether rfX2_ok (Nat.le_of_ble_eq_true rfl) ?_
  intro V hV
  have hP : (fun (r : Option Value) (w : am_W) => r = none ∧ w = (wX2 11 res τ)) none (wX2 11 res τ) := ⟨rfl, rfl⟩
  show V (wX2 11 σ τ) 0 [(0, .ref 0), (1, .int a1)] []
  unfold X2_goTogether at h
  refine hV.run 6 [] (ws' := wX2 11 σ τ) (pc' := 7) (ls' := [(4, .int 0), (3, .int 0), (2, .int 0), (0, .ref 0), (1, .int a1)]) (st' := []) (ps := []) rfl trivial ?_
  refine hV.pick [3, 4, 2, 1, 0] (ls' := [(0, .ref 0), (1, .int a1), (2, .int 0), (3, .int 0), (4, .int 0)]) rfl ?_
  exact p_X2_goTogether_L7 hV n τ res hP n σ a1 0 0 0 h

def X2_move (n : Nat) (σ : am_M) (a1 : Int32) (a2 : Int32) : Option am_M := if (X2_doing (sC σ 0 (upd (σ 0) 12 (-1))) a1) = 0 then (X2_hasRoom n (sC σ 0 (upd (σ 0) 12 (-1))) a1).bind (fun q2 => if q2 = true then (X2_lay n (sC σ 0 (upd (σ 0) 12 (-1))) a1 0).bind (fun q4 => some q4) else (X2_handOver (sC σ 0 (upd (σ 0) 12 (-1))) a1).bind (fun q5 => some q5)) else (if (X2_doing (sC σ 0 (upd (σ 0) 12 (-1))) a1) = 1 then (X2_handOver (sC σ 0 (upd (σ 0) 12 (-1))) a1).bind (fun q7 => some q7) else (if (X2_doing (sC σ 0 (upd (σ 0) 12 (-1))) a1) = 2 then (X2_lay n (sC σ 0 (upd (σ 0) 12 (-1))) a1 1).bind (fun q9 => some q9) else (if (X2_doing (sC σ 0 (upd (σ 0) 12 (-1))) a1) = 3 then (X2_take n (sC σ 0 (upd (σ 0) 12 (-1))) a1 (X2_get (sC σ 0 (upd (σ 0) 12 (-1))) a1 10)).bind (fun q11 => some q11) else (if (X2_doing (sC σ 0 (upd (σ 0) 12 (-1))) a1) = 4 then (X2_take n (sC σ 0 (upd (σ 0) 12 (-1))) a1 a2).bind (fun q13 => some q13) else (if (X2_doing (sC σ 0 (upd (σ 0) 12 (-1))) a1) = 5 then (X2_raise (sC σ 0 (upd (σ 0) 12 (-1))) a1 (jat 8 (σ 10) a1)).bind (fun q15 => (X2_tick q15 a1 1).bind (fun q16 => (X2_hasDone q16 a1).bind (fun q17 => some q17))) else (X2_goTogether n (sC σ 0 (upd (σ 0) 12 (-1))) (X2_doing (sC σ 0 (upd (σ 0) 12 (-1))) a1)).bind (fun q18 => some q18))))))
set_option maxRecDepth 100000 in
theorem c_X2_move (l : Launch) (n : Nat) (σ : am_M) (τ : Nat → Int64) (a1 : Int32) (a2 : Int32) (res : am_M) (h : X2_move n σ a1 a2 = some res) : am_Con l yX2_move cX2_move 4 none 5 [.ref 0, .int a1, .int a2] (wX2 11 σ τ) (fun (r : Option Value) (w : am_W) => r = none ∧ w = (wX2 11 res τ)) := by
  refine am_met (own := RX2) (cd := am_cdT' tX2_move) (rf := am_rfL rfX2) (ini := false) (by decide +kernel) rfl (by decide) dX2_move rfX2_ok (Nat.le_of_ble_eq_true rfl) ?_
  intro V hV
  have hP : (fun (r : Option Value) (w : am_W) => r = none ∧ w = (wX2 11 res τ)) none (wX2 11 res τ) := ⟨rfl, rfl⟩
  show V (wX2 11 σ τ) 0 [(0, .ref 0), (1, .int a1), (2, .int a2)] []
  unfold X2_move at h
  refine hV.run 5 [] (ws' := wX2 11 (sC σ 0 (upd (σ 0) 12 (-1))) τ) (pc' := 7) (ls' := [(0, .ref 0), (1, .int a1), (2, .int a2)]) (st' := [.int a1, .ref 0]) (ps := []) rfl trivial ?_
  refine hV.cVi (as := [.int a1]) (js := [0, 1, 2, 3, 4, 5, 6, 7, 8, 9, 10, 11, 12, 13, 14, 15, 16, 17, 18]) (rest := []) (st := [.int a1, .ref 0]) (ws2 := wX2 11 (sC σ 0 (upd (σ 0) 12 (-1))) τ) (pc2 := 10) kX2_142 (c_X2_doing l (sC σ 0 (upd (σ 0) 12 (-1))) τ a1) rfl rfl rfl rfl rfl rfl rfl rfl rfl rfl rfl rfl ?_
  by_cases c1 : (X2_doing (sC σ 0 (upd (σ 0) 12 (-1))) a1) = 0
  · rw [if_pos c1] at h
    refine hV.run 5 [1] (ws' := wX2 11 (sC σ 0 (upd (σ 0) 12 (-1))) τ) (pc' := 54) (ls' := [(3, .int (X2_doing (sC σ 0 (upd (σ 0) 12 (-1))) a1)), (0, .ref 0), (1, .int a1), (2, .int a2)]) (st' := [.int a1, .ref 0]) (ps := [(X2_doing (sC σ 0 (upd (σ 0) 12 (-1))) a1).toInt = 0 + ((0 : Nat) : Int), 0 < 6, ¬ 5 < (X2_doing (sC σ 0 (upd (σ 0) 12 (-1))) a1).toInt]) rfl ⟨(by rw [c1]; decide), (by decide), (by rw [c1]; decide), trivial⟩ ?_
    obtain ⟨q2, hq2, h⟩ := am_bind h
    refine hV.cVi (as := [.int a1]) (js := [0, 1, 2, 3, 4, 5, 6, 7, 8, 9, 10, 11, 12, 13, 14, 15, 16, 17, 18]) (rest := []) (st := [.int a1, .ref 0]) (ws2 := wX2 11 (sC σ 0 (upd (σ 0) 12 (-1))) τ) (pc2 := 57) kX2_145 (c_X2_hasRoom l n (sC σ 0 (upd (σ 0) 12 (-1))) τ a1 q2 hq2) rfl rfl rfl rfl rfl rfl rfl rfl rfl rfl rfl rfl ?_
    by_cases c3 : q2 = true
    · rw [if_pos c3] at h
      refine hV.run 4 [0] (ws' := wX2 11 (sC σ 0 (upd (σ 0) 12 (-1))) τ) (pc' := 63) (ls' := [(3, .int (X2_doing (sC σ 0 (upd (σ 0) 12 (-1))) a1)), (0, .ref 0), (1, .int a1), (2, .int a2)]) (st' := [.int 0, .int a1, .ref 0]) (ps := [¬ (b2i q2) = 0]) rfl ⟨(b2i_t c3), trivial⟩ ?_
      obtain ⟨q4, hq4, h⟩ := am_bind h
      refine hV.cVv (as := [.int a1, .int 0]) (js := [0, 1, 2, 3, 4, 5, 6, 7, 8, 9, 10, 11, 12, 13, 14, 15, 16, 17, 18]) (rest := []) (st := [.int 0, .int a1, .ref 0]) (ws2 := wX2 11 q4 τ) (pc2 := 66) kX2_163 (c_X2_lay l n (sC σ 0 (upd (σ 0) 12 (-1))) τ a1 0 q4 hq4) rfl rfl rfl rfl rfl rfl rfl rfl rfl rfl rfl rfl ?_
      refine hV.run 1 [] (ws' := wX2 11 q4 τ) (pc' := 150) (ls' := [(3, .int (X2_doing (sC σ 0 (upd (σ 0) 12 (-1))) a1)), (0, .ref 0), (1, .int a1), (2, .int a2)]) (st' := []) (ps := []) rfl trivial ?_
      cases h
      exact hV.rv rfl rfl rfl hP
    · rw [if_neg c3] at h
      refine hV.run 3 [1] (ws' := wX2 11 (sC σ 0 (upd (σ 0) 12 (-1))) τ) (pc' := 71) (ls' := [(3, .int (X2_doing (sC σ 0 (upd (σ 0) 12 (-1))) a1)), (0, .ref 0), (1, .int a1), (2, .int a2)]) (st' := [.int a1, .ref 0]) (ps := [(b2i q2) = 0]) rfl ⟨(b2i_f c3), trivial⟩ ?_
      obtain ⟨q5, hq5, h⟩ := am_bind h
      refine hV.cVv (as := [.int a1]) (js := [0, 1, 2, 3, 4, 5, 6, 7, 8, 9, 10, 11, 12, 13, 14, 15, 16, 17, 18]) (rest := []) (st := [.int a1, .ref 0]) (ws2 := wX2 11 q5 τ) (pc2 := 74) kX2_166 (c_X2_handOver l (sC σ 0 (upd (σ 0) 12 (-1))) τ a1 q5 hq5) rfl rfl rfl rfl rfl rfl rfl rfl rfl rfl rfl rfl ?_
      refine hV.run 1 [] (ws' := wX2 11 q5 τ) (pc' := 150) (ls' := [(3, .int (X2_doing (sC σ 0 (upd (σ 0) 12 (-1))) a1)), (0, .ref 0), (1, .int a1), (2, .int a2)]) (st' := []) (ps := []) rfl trivial ?_
      cases h
      exact hV.rv rfl rfl rfl hP
  · rw [if_neg c1] at h
    by_cases c6 : (X2_doing (sC σ 0 (upd (σ 0) 12 (-1))) a1) = 1
    · rw [if_pos c6] at h
      refine hV.run 5 [2] (ws' := wX2 11 (sC σ 0 (upd (σ 0) 12 (-1))) τ) (pc' := 79) (ls' := [(3, .int (X2_doing (sC σ 0 (upd (σ 0) 12 (-1))) a1)), (0, .ref 0), (1, .int a1), (2, .int a2)]) (st' := [.int a1, .ref 0]) (ps := [(X2_doing (sC σ 0 (upd (σ 0) 12 (-1))) a1).toInt = 0 + ((1 : Nat) : Int), 1 < 6, ¬ 5 < (X2_doing (sC σ 0 (upd (σ 0) 12 (-1))) a1).toInt]) rfl ⟨(by rw [c6]; decide), (by decide), (by rw [c6]; decide), trivial⟩ ?_
      obtain ⟨q7, hq7, h⟩ := am_bind h
      refine hV.cVv (as := [.int a1]) (js := [0, 1, 2, 3, 4, 5, 6, 7, 8, 9, 10, 11, 12, 13, 14, 15, 16, 17, 18]) (rest := []) (st := [.int a1, .ref 0]) (ws2 := wX2 11 q7 τ) (pc2 := 82) kX2_166 (c_X2_handOver l (sC σ 0 (upd (σ 0) 12 (-1))) τ a1 q7 hq7) rfl rfl rfl rfl rfl rfl rfl rfl rfl rfl rfl rfl ?_
      refine hV.run 1 [] (ws' := wX2 11 q7 τ) (pc' := 150) (ls' := [(3, .int (X2_doing (sC σ 0 (upd (σ 0) 12 (-1))) a1)), (0, .ref 0), (1, .int a1), (2, .int a2)]) (st' := []) (ps := []) rfl trivial ?_
      cases h
      exact hV.rv rfl rfl rfl hP
    · rw [if_neg c6] at h
      by_cases c8 : (X2_doing (sC σ 0 (upd (σ 0) 12 (-1))) a1) = 2
      · rw [if_pos c8] at h
        refine hV.run 6 [3] (ws' := wX2 11 (sC σ 0 (upd (σ 0) 12 (-1))) τ) (pc' := 88) (ls' := [(3, .int (X2_doing (sC σ 0 (upd (σ 0) 12 (-1))) a1)), (0, .ref 0), (1, .int a1), (2, .int a2)]) (st' := [.int 1, .int a1, .ref 0]) (ps := [(X2_doing (sC σ 0 (upd (σ 0) 12 (-1))) a1).toInt = 0 + ((2 : Nat) : Int), 2 < 6, ¬ 5 < (X2_doing (sC σ 0 (upd (σ 0) 12 (-1))) a1).toInt]) rfl ⟨(by rw [c8]; decide), (by decide), (by rw [c8]; decide), trivial⟩ ?_
        obtain ⟨q9, hq9, h⟩ := am_bind h
        refine hV.cVv (as := [.int a1, .int 1]) (js := [0, 1, 2, 3, 4, 5, 6, 7, 8, 9, 10, 11, 12, 13, 14, 15, 16, 17, 18]) (rest := []) (st := [.int 1, .int a1, .ref 0]) (ws2 := wX2 11 q9 τ) (pc2 := 91) kX2_163 (c_X2_lay l n (sC σ 0 (upd (σ 0) 12 (-1))) τ a1 1 q9 hq9) rfl rfl rfl rfl rfl rfl rfl rfl rfl rfl rfl rfl ?_
        refine hV.run 1 [] (ws' := wX2 11 q9 τ) (pc' := 150) (ls' := [(3, .int (X2_doing (sC σ 0 (upd (σ 0) 12 (-1))) a1)), (0, .ref 0), (1, .int a1), (2, .int a2)]) (st' := []) (ps := []) rfl trivial ?_
        cases h
        exact hV.rv rfl rfl rfl hP
      · rw [if_neg c8] at h
        by_cases c10 : (X2_doing (sC σ 0 (upd (σ 0) 12 (-1))) a1) = 3
        · rw [if_pos c10] at h
          refine hV.run 8 [4] (ws' := wX2 11 (sC σ 0 (upd (σ 0) 12 (-1))) τ) (pc' := 100) (ls' := [(3, .int (X2_doing (sC σ 0 (upd (σ 0) 12 (-1))) a1)), (0, .ref 0), (1, .int a1), (2, .int a2)]) (st' := [.int 10, .int a1, .ref 0, .int a1, .ref 0]) (ps := [(X2_doing (sC σ 0 (upd (σ 0) 12 (-1))) a1).toInt = 0 + ((3 : Nat) : Int), 3 < 6, ¬ 5 < (X2_doing (sC σ 0 (upd (σ 0) 12 (-1))) a1).toInt]) rfl ⟨(by rw [c10]; decide), (by decide), (by rw [c10]; decide), trivial⟩ ?_
          refine hV.cVi (as := [.int a1, .int 10]) (js := [0, 1, 2, 3, 4, 5, 6, 7, 8, 9, 10, 11, 12, 13, 14, 15, 16, 17, 18]) (rest := [.int a1, .ref 0]) (st := [.int 10, .int a1, .ref 0, .int a1, .ref 0]) (ws2 := wX2 11 (sC σ 0 (upd (σ 0) 12 (-1))) τ) (pc2 := 103) kX2_81 (c_X2_get l (sC σ 0 (upd (σ 0) 12 (-1))) τ a1 10) rfl rfl rfl rfl rfl rfl rfl rfl rfl rfl rfl rfl ?_
          obtain ⟨q11, hq11, h⟩ := am_bind h
          refine hV.cVv (as := [.int a1, .int (X2_get (sC σ 0 (upd (σ 0) 12 (-1))) a1 10)]) (js := [0, 1, 2, 3, 4, 5, 6, 7, 8, 9, 10, 11, 12, 13, 14, 15, 16, 17, 18]) (rest := []) (st := [.int (X2_get (sC σ 0 (upd (σ 0) 12 (-1))) a1 10), .int a1, .ref 0]) (ws2 := wX2 11 q11 τ) (pc2 := 106) kX2_169 (c_X2_take l n (sC σ 0 (upd (σ 0) 12 (-1))) τ a1 (X2_get (sC σ 0 (upd (σ 0) 12 (-1))) a1 10) q11 hq11) rfl rfl rfl rfl rfl rfl rfl rfl rfl rfl rfl rfl ?_
          refine hV.run 1 [] (ws' := wX2 11 q11 τ) (pc' := 150) (ls' := [(3, .int (X2_doing (sC σ 0 (upd (σ 0) 12 (-1))) a1)), (0, .ref 0), (1, .int a1), (2, .int a2)]) (st' := []) (ps := []) rfl trivial ?_
          cases h
          exact hV.rv rfl rfl rfl hP
        · rw [if_neg c10] at h
          by_cases c12 : (X2_doing (sC σ 0 (upd (σ 0) 12 (-1))) a1) = 4
          · rw [if_pos c12] at h
            refine hV.run 6 [5] (ws' := wX2 11 (sC σ 0 (upd (σ 0) 12 (-1))) τ) (pc' := 112) (ls' := [(3, .int (X2_doing (sC σ 0 (upd (σ 0) 12 (-1))) a1)), (0, .ref 0), (1, .int a1), (2, .int a2)]) (st' := [.int a2, .int a1, .ref 0]) (ps := [(X2_doing (sC σ 0 (upd (σ 0) 12 (-1))) a1).toInt = 0 + ((4 : Nat) : Int), 4 < 6, ¬ 5 < (X2_doing (sC σ 0 (upd (σ 0) 12 (-1))) a1).toInt]) rfl ⟨(by rw [c12]; decide), (by decide), (by rw [c12]; decide), trivial⟩ ?_
            obtain ⟨q13, hq13, h⟩ := am_bind h
            refine hV.cVv (as := [.int a1, .int a2]) (js := [0, 1, 2, 3, 4, 5, 6, 7, 8, 9, 10, 11, 12, 13, 14, 15, 16, 17, 18]) (rest := []) (st := [.int a2, .int a1, .ref 0]) (ws2 := wX2 11 q13 τ) (pc2 := 115) kX2_169 (c_X2_take l n (sC σ 0 (upd (σ 0) 12 (-1))) τ a1 a2 q13 hq13) rfl rfl rfl rfl rfl rfl rfl rfl rfl rfl rfl rfl ?_
            refine hV.run 1 [] (ws' := wX2 11 q13 τ) (pc' := 150) (ls' := [(3, .int (X2_doing (sC σ 0 (upd (σ 0) 12 (-1))) a1)), (0, .ref 0), (1, .int a1), (2, .int a2)]) (st' := []) (ps := []) rfl trivial ?_
            cases h
            exact hV.rv rfl rfl rfl hP
          · rw [if_neg c12] at h
            by_cases c14 : (X2_doing (sC σ 0 (upd (σ 0) 12 (-1))) a1) = 5
            · rw [if_pos c14] at h
              refine hV.run 8 [6] (ws' := wX2 11 (sC σ 0 (upd (σ 0) 12 (-1))) τ) (pc' := 125) (ls' := [(3, .int (X2_doing (sC σ 0 (upd (σ 0) 12 (-1))) a1)), (0, .ref 0), (1, .int a1), (2, .int a2)]) (st' := [.int a1, .ref 10, .int a1, .ref 0]) (ps := [(X2_doing (sC σ 0 (upd (σ 0) 12 (-1))) a1).toInt = 0 + ((5 : Nat) : Int), 5 < 6, ¬ 5 < (X2_doing (sC σ 0 (upd (σ 0) 12 (-1))) a1).toInt]) rfl ⟨(by rw [c14]; decide), (by decide), (by rw [c14]; decide), trivial⟩ ?_
              refine hV.cSi (as := [.ref 0, .int a1]) (js := [10]) (rest := [.int a1, .ref 0]) (st := [.int a1, .ref 10, .int a1, .ref 0]) (ws2 := wX2 11 (sC σ 0 (upd (σ 0) 12 (-1))) τ) (pc2 := 128) kX2_110 (c_at l 1 8 (by decide) (σ 10) a1) rfl rfl rfl rfl rfl rfl rfl rfl rfl rfl ?_
              obtain ⟨q15, hq15, h⟩ := am_bind h
              refine hV.cVv (as := [.int a1, .int (jat 8 (σ 10) a1)]) (js := [0, 1, 2, 3, 4, 5, 6, 7, 8, 9, 10, 11, 12, 13, 14, 15, 16, 17, 18]) (rest := []) (st := [.int (jat 8 (σ 10) a1), .int a1, .ref 0]) (ws2 := wX2 11 q15 τ) (pc2 := 131) kX2_172 (c_X2_raise l (sC σ 0 (upd (σ 0) 12 (-1))) τ a1 (jat 8 (σ 10) a1) q15 hq15) rfl rfl rfl rfl rfl rfl rfl rfl rfl rfl rfl rfl ?_
              refine hV.run 3 [] (ws' := wX2 11 q15 τ) (pc' := 134) (ls' := [(3, .int (X2_doing (sC σ 0 (upd (σ 0) 12 (-1))) a1)), (0, .ref 0), (1, .int a1), (2, .int a2)]) (st' := [.int 1, .int a1, .ref 0]) (ps := []) rfl trivial ?_
              obtain ⟨q16, hq16, h⟩ := am_bind h
              refine hV.cVv (as := [.int a1, .int 1]) (js := [0, 1, 2, 3, 4, 5, 6, 7, 8, 9, 10, 11, 12, 13, 14, 15, 16, 17, 18]) (rest := []) (st := [.int 1, .int a1, .ref 0]) (ws2 := wX2 11 q16 τ) (pc2 := 137) kX2_175 (c_X2_tick l q15 τ a1 1 q16 hq16) rfl rfl rfl rfl rfl rfl rfl rfl rfl rfl rfl rfl ?_
              refine hV.run 2 [] (ws' := wX2 11 q16 τ) (pc' := 139) (ls' := [(3, .int (X2_doing (sC σ 0 (upd (σ 0) 12 (-1))) a1)), (0, .ref 0), (1, .int a1), (2, .int a2)]) (st' := [.int a1, .ref 0]) (ps := []) rfl trivial ?_
              obtain ⟨q17, hq17, h⟩ := am_bind h
              refine hV.cVv (as := [.int a1]) (js := [0, 1, 2, 3, 4, 5, 6, 7, 8, 9, 10, 11, 12, 13, 14, 15, 16, 17, 18]) (rest := []) (st := [.int a1, .ref 0]) (ws2 := wX2 11 q17 τ) (pc2 := 142) kX2_178 (c_X2_hasDone l q16 τ a1 q17 hq17) rfl rfl rfl rfl rfl rfl rfl rfl rfl rfl rfl rfl ?_
              refine hV.run 1 [] (ws' := wX2 11 q17 τ) (pc' := 150) (ls' := [(3, .int (X2_doing (sC σ 0 (upd (σ 0) 12 (-1))) a1)), (0, .ref 0), (1, .int a1), (2, .int a2)]) (st' := []) (ps := []) rfl trivial ?_
              cases h
              exact hV.rv rfl rfl rfl hP
            · rw [if_neg c14] at h
              refine hV.run 5 [0] (ws' := wX2 11 (sC σ 0 (upd (σ 0) 12 (-1))) τ) (pc' := 147) (ls' := [(3, .int (X2_doing (sC σ 0 (upd (σ 0) 12 (-1))) a1)), (0, .ref 0), (1, .int a1), (2, .int a2)]) (st' := [.int (X2_doing (sC σ 0 (upd (σ 0) 12 (-1))) a1), .ref 0]) (ps := [(X2_doing (sC σ 0 (upd (σ 0) 12 (-1))) a1).toInt < 0 ∨ 5 < (X2_doing (sC σ 0 (upd (σ 0) 12 (-1))) a1).toInt]) rfl ⟨(by have c1_ := am_ne c1 (by decide : (0 : Int32).toInt = 0); have c6_ := am_ne c6 (by decide : (1 : Int32).toInt = 1); have c8_ := am_ne c8 (by decide : (2 : Int32).toInt = 2); have c10_ := am_ne c10 (by decide : (3 : Int32).toInt = 3); have c12_ := am_ne c12 (by decide : (4 : Int32).toInt = 4); have c14_ := am_ne c14 (by decide : (5 : Int32).toInt = 5); omega), trivial⟩ ?_
              obtain ⟨q18, hq18, h⟩ := am_bind h
              refine hV.cVv (as := [.int (X2_doing (sC σ 0 (upd (σ 0) 12 (-1))) a1)]) (js := [0, 1, 2, 3, 4, 5, 6, 7, 8, 9, 10, 11, 12, 13, 14, 15, 16, 17, 18]) (rest := []) (st := [.int (X2_doing (sC σ 0 (upd (σ 0) 12 (-1))) a1), .ref 0]) (ws2 := wX2 11 q18 τ) (pc2 := 150) kX2_181 (c_X2_goTogether l n (sC σ 0 (upd (σ 0) 12 (-1))) τ (X2_doing (sC σ 0 (upd (σ 0) 12 (-1))) a1) q18 hq18) rfl rfl rfl rfl rfl rfl rfl rfl rfl rfl rfl rfl ?_
              cases h
              exact hV.rv rfl rfl rfl hP

def X2_unended_J26 (n : Nat) (σ : am_M) (kont4 : Int32 → Int32 → Option Int32) (l1 : Int32) (l2 : Int32) : Option Int32 := kont4 l1 (l2 + 1)
set_option maxRecDepth 100000 in
theorem p_X2_unended_J26 {l : Launch} {Post : Option Value → am_W → Prop} {V : am_VT} (hV : am_B l RX2 false 3 (am_cdT' tX2_unended) (am_rfL rfX2) (some .int) Post 19 V) (n : Nat) (σ : am_M) (τ : Nat → Int64) (res : Int32) (hP : Post (some (.int res)) (wX2 11 σ τ)) (kont4 : Int32 → Int32 → Option Int32) (hk4 : ∀ (l1 : Int32) (l2 : Int32), kont4 l1 l2 = some res → V (wX2 11 σ τ) 4 [(0, .ref 0), (1, .int l1), (2, .int l2)] []) (l1 : Int32) (l2 : Int32) (h : X2_unended_J26 n σ kont4 l1 l2 = some res) : V (wX2 11 σ τ) 26 [(0, .ref 0), (1, .int l1), (2, .int l2)] [] := by
  unfold X2_unended_J26 at h
  refine hV.run 2 [] (ws' := wX2 11 σ τ) (pc' := 4) (ls' := [(2, .int (l2 + 1)), (0, .ref 0), (1, .int l1)]) (st' := []) (ps := []) rfl trivial ?_
  refine hV.pick [1, 2, 0] (ls' := [(0, .ref 0), (1, .int l1), (2, .int (l2 + 1))]) rfl ?_
  exact hk4 l1 (l2 + 1) h
def X2_unended_B4 (n : Nat) (σ : am_M) (kont4 : Int32 → Int32 → Option Int32) (l1 : Int32) (l2 : Int32) : Option Int32 := if (σ 0 1) ≤ l2 then (some l1) else (if (X2_hasEnded σ l2) = true then (X2_unended_J26 n σ kont4 l1 l2) else (X2_unended_J26 n σ kont4 (l1 ||| (1 <<< (l2 &&& 31))) l2))
def X2_unended_L4 (n : Nat) (σ : am_M) : Nat → Int32 → Int32 → Option Int32
 | 0 => fun _ _ => none
 | k + 1 => fun l1 l2 => X2_unended_B4 n σ (X2_unended_L4 n σ k) l1 l2
set_option maxRecDepth 100000 in
theorem p_X2_unended_B4 {l : Launch} {Post : Option Value → am_W → Prop} {V : am_VT} (hV : am_B l RX2 false 3 (am_cdT' tX2_unended) (am_rfL rfX2) (some .int) Post 19 V) (n : Nat) (σ : am_M) (τ : Nat → Int64) (res : Int32) (hP : Post (some (.int res)) (wX2 11 σ τ)) (kont4 : Int32 → Int32 → Option Int32) (hk4 : ∀ (l1 : Int32) (l2 : Int32), kont4 l1 l2 = some res → V (wX2 11 σ τ) 4 [(0, .ref 0), (1, .int l1), (2, .int l2)] []) (l1 : Int32) (l2 : Int32) (h : X2_unended_B4 n σ kont4 l1 l2 = some res) : V (wX2 11 σ τ) 4 [(0, .ref 0), (1, .int l1), (2, .int l2)] [] := by
  unfold X2_unended_B4 at h
  by_cases c1 : (σ 0 1) ≤ l2
  · rw [if_pos c1] at h
    refine hV.run 5 [1] (ws' := wX2 11 σ τ) (pc' := 33) (ls' := [(0, .ref 0), (1, .int l1), (2, .int l2)]) (st' := [.int l1]) (ps := [(σ 0 1) ≤ l2]) rfl ⟨c1, trivial⟩ ?_
    cases h
    exact hV.ri rfl rfl rfl hP
  · rw [if_neg c1] at h
    refine hV.run 6 [0] (ws' := wX2 11 σ τ) (pc' := 14) (ls' := [(0, .ref 0), (1, .int l1), (2, .int l2)]) (st' := [.int l2, .ref 0]) (ps := [¬ (σ 0 1) ≤ l2]) rfl ⟨c1, trivial⟩ ?_
    refine hV.cVi (as := [.int l2]) (js := [0, 1, 2, 3, 4, 5, 6, 7, 8, 9, 10, 11, 12, 13, 14, 15, 16, 17, 18]) (rest := []) (st := [.int l2, .ref 0]) (ws2 := wX2 11 σ τ) (pc2 := 17) kX2_230 (c_X2_hasEnded l σ τ l2) rfl rfl rfl rfl rfl rfl rfl rfl rfl rfl rfl rfl ?_
    by_cases c2 : (X2_hasEnded σ l2) = true
    · rw [if_pos c2] at h
      refine hV.run 1 [1] (ws' := wX2 11 σ τ) (pc' := 26) (ls' := [(0, .ref 0), (1, .int l1), (2, .int l2)]) (st' := []) (ps := [¬ (b2i (X2_hasEnded σ l2)) = 0]) rfl ⟨(b2i_t c2), trivial⟩ ?_
      exact p_X2_unended_J26 hV n σ τ res hP kont4 hk4 l1 l2 h
    · rw [if_neg c2] at h
      refine hV.run 7 [0] (ws' := wX2 11 σ τ) (pc' := 26) (ls' := [(1, .int (l1 ||| (1 <<< (l2 &&& 31)))), (0, .ref 0), (2, .int l2)]) (st' := []) (ps := [(b2i (X2_hasEnded σ l2)) = 0]) rfl ⟨(b2i_f c2), trivial⟩ ?_
      refine hV.pick [1, 0, 2] (ls' := [(0, .ref 0), (1, .int (l1 ||| (1 <<< (l2 &&& 31)))), (2, .int l2)]) rfl ?_
      exact p_X2_unended_J26 hV n σ τ res hP kont4 hk4 (l1 ||| (1 <<< (l2 &&& 31))) l2 h
theorem p_X2_unended_L4 {l : Launch} {Post : Option Value → am_W → Prop} {V : am_VT} (hV : am_B l RX2 false 3 (am_cdT' tX2_unended) (am_rfL rfX2) (some .int) Post 19 V) (n : Nat) (σ : am_M) (τ : Nat → Int64) (res : Int32) (hP : Post (some (.int res)) (wX2 11 σ τ)) : ∀ (k : Nat) (l1 : Int32) (l2 : Int32) (h : X2_unended_L4 n σ k l1 l2 = some res), V (wX2 11 σ τ) 4 [(0, .ref 0), (1, .int l1), (2, .int l2)] [] := by
  intro k
  induction k with
  | zero => intro l1 l2 h; cases h
  | succ k ih => intro l1 l2 h; exact p_X2_unended_B4 hV n σ τ res hP _ ih l1 l2 h
def X2_unended (n : Nat) (σ : am_M) : Option Int32 := X2_unended_L4 n σ n 0 0
set_option maxRecDepth 100000 in
theorem c_X2_unended (l : Launch) (n : Nat) (σ : am_M) (τ : Nat → Int64) (res : Int32) (h : X2_unended n σ = some res) : am_Con l yX2_unended cX2_unended 3 (some .int) 3 [.ref 0] (wX2 11 σ τ) (fun (r : Option Value) (w : am_W) => r = (some (.int res)) ∧ w = (wX2 11 σ τ)) := by
  refine am_met (own := RX2) (cd := am_cdT' tX2_unended) (rf := am_rfL rfX2) (ini := false) (by decide +kernel) rfl (by decide) dX2_unended rfX2_ok (Nat.le_of_ble_eq_true rfl) ?_
  intro V hV
  have hP : (fun (r : Option Value) (w : am_W) => r = (some (.int res)) ∧ w = (wX2 11 σ τ)) (some (.int res)) (wX2 11 σ τ) := ⟨rfl, rfl⟩
  show V (wX2 11 σ τ) 0 [(0, .ref 0)] []
  unfold X2_unended at h
  refine hV.run 4 [] (ws' := wX2 11 σ τ) (pc' := 4) (ls' := [(2, .int 0), (1, .int 0), (0, .ref 0)]) (st' := []) (ps := []) rfl trivial ?_
  refine hV.pick [2, 1, 0] (ls' := [(0, .ref 0), (1, .int 0), (2, .int 0)]) rfl ?_
  exact p_X2_unended_L4 hV n σ τ res hP n 0 0 h

def X2_outcome_B11 (n : Nat) (σ : am_M) (kont11 : Int32 → Option Int32) (l1 : Int32) : Option Int32 := if (σ 0 1) ≤ l1 then (some 2) else (if (X2_get σ l1 1) = 1 then (some 1) else (kont11 (l1 + 1)))
def X2_outcome_L11 (n : Nat) (σ : am_M) : Nat → Int32 → Option Int32
 | 0 => fun _ => none
 | k + 1 => fun l1 => X2_outcome_B11 n σ (X2_outcome_L11 n σ k) l1
set_option maxRecDepth 100000 in
theorem p_X2_outcome_B11 {l : Launch} {Post : Option Value → am_W → Prop} {V : am_VT} (hV : am_B l RX2 false 4 (am_cdT' tX2_outcome) (am_rfL rfX2) (some .int) Post 19 V) (n : Nat) (σ : am_M) (τ : Nat → Int64) (res : Int32) (hP : Post (some (.int res)) (wX2 11 σ τ)) (kont11 : Int32 → Option Int32) (hk11 : ∀ (l1 : Int32), kont11 l1 = some res → V (wX2 11 σ τ) 11 [(0, .ref 0), (1, .int l1)] []) (l1 : Int32) (h : X2_outcome_B11 n σ kont11 l1 = some res) : V (wX2 11 σ τ) 11 [(0, .ref 0), (1, .int l1)] [] := by
  unfold X2_outcome_B11 at h
  by_cases c1 : (σ 0 1) ≤ l1
  · rw [if_pos c1] at h
    refine hV.run 5 [1] (ws' := wX2 11 σ τ) (pc' := 38) (ls' := [(0, .ref 0), (1, .int l1)]) (st' := [.int 2]) (ps := [(σ 0 1) ≤ l1]) rfl ⟨c1, trivial⟩ ?_
    cases h
    exact hV.ri rfl rfl rfl hP
  · rw [if_neg c1] at h
    refine hV.run 7 [0] (ws' := wX2 11 σ τ) (pc' := 22) (ls' := [(0, .ref 0), (1, .int l1)]) (st' := [.int 1, .int l1, .ref 0]) (ps := [¬ (σ 0 1) ≤ l1]) rfl ⟨c1, trivial⟩ ?_
    refine hV.cVi (as := [.int l1, .int 1]) (js := [0, 1, 2, 3, 4, 5, 6, 7, 8, 9, 10, 11, 12, 13, 14, 15, 16, 17, 18]) (rest := []) (st := [.int 1, .int l1, .ref 0]) (ws2 := wX2 11 σ τ) (pc2 := 25) kX2_81 (c_X2_get l σ τ l1 1) rfl rfl rfl rfl rfl rfl rfl rfl rfl rfl rfl rfl ?_
    by_cases c2 : (X2_get σ l1 1) = 1
    · rw [if_pos c2] at h
      refine hV.run 3 [0] (ws' := wX2 11 σ τ) (pc' := 30) (ls' := [(0, .ref 0), (1, .int l1)]) (st' := [.int 1]) (ps := [(X2_get σ l1 1) = 1]) rfl ⟨c2, trivial⟩ ?_
      cases h
      exact hV.ri rfl rfl rfl hP
    · rw [if_neg c2] at h
      refine hV.run 4 [1] (ws' := wX2 11 σ τ) (pc' := 11) (ls' := [(1, .int (l1 + 1)), (0, .ref 0)]) (st' := []) (ps := [¬ (X2_get σ l1 1) = 1]) rfl ⟨c2, trivial⟩ ?_
      refine hV.pick [1, 0] (ls' := [(0, .ref 0), (1, .int (l1 + 1))]) rfl ?_
      exact hk11 (l1 + 1) h
theorem p_X2_outcome_L11 {l : Launch} {Post : Option Value → am_W → Prop} {V : am_VT} (hV : am_B l RX2 false 4 (am_cdT' tX2_outcome) (am_rfL rfX2) (some .int) Post 19 V) (n : Nat) (σ : am_M) (τ : Nat → Int64) (res : Int32) (hP : Post (some (.int res)) (wX2 11 σ τ)) : ∀ (k : Nat) (l1 : Int32) (h : X2_outcome_L11 n σ k l1 = some res), V (wX2 11 σ τ) 11 [(0, .ref 0), (1, .int l1)] [] := by
  intro k
  induction k with
  | zero => intro l1 h; cases h
  | succ k ih => intro l1 h; exact p_X2_outcome_B11 hV n σ τ res hP _ ih l1 h
def X2_outcome (n : Nat) (σ : am_M) : Option Int32 := (X2_unended n σ).bind (fun q1 => if q1 = 0 then (some 0) else (X2_outcome_L11 n σ n 0))
set_option maxRecDepth 100000 in
theorem c_X2_outcome (l : Launch) (n : Nat) (σ : am_M) (τ : Nat → Int64) (res : Int32) (h : X2_outcome n σ = some res) : am_Con l yX2_outcome cX2_outcome 2 (some .int) 4 [.ref 0] (wX2 11 σ τ) (fun (r : Option Value) (w : am_W) => r = (some (.int res)) ∧ w = (wX2 11 σ τ)) := by
  refine am_met (own := RX2) (cd := am_cdT' tX2_outcome) (rf := am_rfL rfX2) (ini := false) (by decide +kernel) rfl (by decide) dX2_outcome rfX2_ok (Nat.le_of_ble_eq_true rfl) ?_
  intro V hV
  have hP : (fun (r : Option Value) (w : am_W) => r = (some (.int res)) ∧ w = (wX2 11 σ τ)) (some (.int res)) (wX2 11 σ τ) := ⟨rfl, rfl⟩
  show V (wX2 11 σ τ) 0 [(0, .ref 0)] []
  unfold X2_outcome at h
  refine hV.run 1 [] (ws' := wX2 11 σ τ) (pc' := 1) (ls' := [(0, .ref 0)]) (st' := [.ref 0]) (ps := []) rfl trivial ?_
  obtain ⟨q1, hq1, h⟩ := am_bind h
  refine hV.cVi (as := []) (js := [0, 1, 2, 3, 4, 5, 6, 7, 8, 9, 10, 11, 12, 13, 14, 15, 16, 17, 18]) (rest := []) (st := [.ref 0]) (ws2 := wX2 11 σ τ) (pc2 := 4) kX2_233 (c_X2_unended l n σ τ q1 hq1) rfl rfl rfl rfl rfl rfl rfl rfl rfl rfl rfl rfl ?_
  by_cases c2 : q1 = 0
  · rw [if_pos c2] at h
    refine hV.run 2 [0] (ws' := wX2 11 σ τ) (pc' := 8) (ls' := [(0, .ref 0)]) (st' := [.int 0]) (ps := [q1 = 0]) rfl ⟨c2, trivial⟩ ?_
    cases h
    exact hV.ri rfl rfl rfl hP
  · rw [if_neg c2] at h
    refine hV.run 3 [1] (ws' := wX2 11 σ τ) (pc' := 11) (ls' := [(1, .int 0), (0, .ref 0)]) (st' := []) (ps := [¬ q1 = 0]) rfl ⟨c2, trivial⟩ ?_
    refine hV.pick [1, 0] (ls' := [(0, .ref 0), (1, .int 0)]) rfl ?_
    exact p_X2_outcome_L11 hV n σ τ res hP n 0 h

def X2_waitsFor (n : Nat) (σ : am_M) (a1 : Int32) : Option Int32 := if (X2_doing σ a1) = 0 then (some (1 <<< ((X2_get σ a1 10) &&& 31))) else (if (X2_doing σ a1) = 1 then (some (1 <<< ((X2_get σ a1 10) &&& 31))) else (if (X2_doing σ a1) = 2 then (some 0) else (if (X2_doing σ a1) = 3 then (some (1 <<< ((X2_get σ a1 10) &&& 31))) else (if (X2_doing σ a1) = 4 then (X2_unended n σ).bind (fun q6 => some (q6 &&& ((1 <<< (a1 &&& 31)) ^^^ (-1)))) else (if (X2_doing σ a1) = 5 then (X6_begunBy n (am_sub σ 2) a1).bind (fun q8 => some q8) else (if (X2_doing σ a1) = 6 then (X2_notDoing n σ (X2_doing σ a1)).bind (fun q10 => some q10) else (if (X2_doing σ a1) = 7 then (X2_notDoing n σ (X2_doing σ a1)).bind (fun q12 => some q12) else (some 0))))))))
set_option maxRecDepth 100000 in
theorem c_X2_waitsFor (l : Launch) (n : Nat) (σ : am_M) (τ : Nat → Int64) (a1 : Int32) (res : Int32) (h : X2_waitsFor n σ a1 = some res) : am_Con l yX2_waitsFor cX2_waitsFor 3 (some .int) 5 [.ref 0, .int a1] (wX2 11 σ τ) (fun (r : Option Value) (w : am_W) => r = (some (.int res)) ∧ w = (wX2 11 σ τ)) := by
  refine am_met (own := RX2) (cd := am_cdT' tX2_waitsFor) (rf := am_rfL rfX2) (ini := false) (by decide +kernel) rfl (by decide) dX2_waitsFor rfX2_ok (Nat.le_of_ble_eq_true rfl) ?_
  intro V hV
  have hP : (fun (r : Option Value) (w : am_W) => r = (some (.int res)) ∧ w = (wX2 11 σ τ)) (some (.int res)) (wX2 11 σ τ) := ⟨rfl, rfl⟩
  show V (wX2 11 σ τ) 0 [(0, .ref 0), (1, .int a1)] []
  unfold X2_waitsFor at h
  refine hV.run 2 [] (ws' := wX2 11 σ τ) (pc' := 2) (ls' := [(0, .ref 0), (1, .int a1)]) (st' := [.int a1, .ref 0]) (ps := []) rfl trivial ?_
  refine hV.cVi (as := [.int a1]) (js := [0, 1, 2, 3, 4, 5, 6, 7, 8, 9, 10, 11, 12, 13, 14, 15, 16, 17, 18]) (rest := []) (st := [.int a1, .ref 0]) (ws2 := wX2 11 σ τ) (pc2 := 5) kX2_142 (c_X2_doing l σ τ a1) rfl rfl rfl rfl rfl rfl rfl rfl rfl rfl rfl rfl ?_
  by_cases c1 : (X2_doing σ a1) = 0
  · rw [if_pos c1] at h
    refine hV.run 7 [1] (ws' := wX2 11 σ τ) (pc' := 57) (ls' := [(2, .int (X2_doing σ a1)), (0, .ref 0), (1, .int a1)]) (st' := [.int 10, .int a1, .ref 0, .int 1]) (ps := [(X2_doing σ a1).toInt = 0 + ((0 : Nat) : Int), 0 < 8, ¬ 7 < (X2_doing σ a1).toInt]) rfl ⟨(by rw [c1]; decide), (by decide), (by rw [c1]; decide), trivial⟩ ?_
    refine hV.cVi (as := [.int a1, .int 10]) (js := [0, 1, 2, 3, 4, 5, 6, 7, 8, 9, 10, 11, 12, 13, 14, 15, 16, 17, 18]) (rest := [.int 1]) (st := [.int 10, .int a1, .ref 0, .int 1]) (ws2 := wX2 11 σ τ) (pc2 := 60) kX2_81 (c_X2_get l σ τ a1 10) rfl rfl rfl rfl rfl rfl rfl rfl rfl rfl rfl rfl ?_
    refine hV.run 1 [] (ws' := wX2 11 σ τ) (pc' := 61) (ls' := [(2, .int (X2_doing σ a1)), (0, .ref 0), (1, .int a1)]) (st' := [.int (1 <<< ((X2_get σ a1 10) &&& 31))]) (ps := []) rfl trivial ?_
    cases h
    exact hV.ri rfl rfl rfl hP
  · rw [if_neg c1] at h
    by_cases c2 : (X2_doing σ a1) = 1
    · rw [if_pos c2] at h
      refine hV.run 7 [2] (ws' := wX2 11 σ τ) (pc' := 57) (ls' := [(2, .int (X2_doing σ a1)), (0, .ref 0), (1, .int a1)]) (st' := [.int 10, .int a1, .ref 0, .int 1]) (ps := [(X2_doing σ a1).toInt = 0 + ((1 : Nat) : Int), 1 < 8, ¬ 7 < (X2_doing σ a1).toInt]) rfl ⟨(by rw [c2]; decide), (by decide), (by rw [c2]; decide), trivial⟩ ?_
      refine hV.cVi (as := [.int a1, .int 10]) (js := [0, 1, 2, 3, 4, 5, 6, 7, 8, 9, 10, 11, 12, 13, 14, 15, 16, 17, 18]) (rest := [.int 1]) (st := [.int 10, .int a1, .ref 0, .int 1]) (ws2 := wX2 11 σ τ) (pc2 := 60) kX2_81 (c_X2_get l σ τ a1 10) rfl rfl rfl rfl rfl rfl rfl rfl rfl rfl rfl rfl ?_
      refine hV.run 1 [] (ws' := wX2 11 σ τ) (pc' := 61) (ls' := [(2, .int (X2_doing σ a1)), (0, .ref 0), (1, .int a1)]) (st' := [.int (1 <<< ((X2_get σ a1 10) &&& 31))]) (ps := []) rfl trivial ?_
      cases h
      exact hV.ri rfl rfl rfl hP
    · rw [if_neg c2] at h
      by_cases c3 : (X2_doing σ a1) = 2
      · rw [if_pos c3] at h
        refine hV.run 4 [3] (ws' := wX2 11 σ τ) (pc' := 89) (ls' := [(2, .int (X2_doing σ a1)), (0, .ref 0), (1, .int a1)]) (st' := [.int 0]) (ps := [(X2_doing σ a1).toInt = 0 + ((2 : Nat) : Int), 2 < 8, ¬ 7 < (X2_doing σ a1).toInt]) rfl ⟨(by rw [c3]; decide), (by decide), (by rw [c3]; decide), trivial⟩ ?_
        cases h
        exact hV.ri rfl rfl rfl hP
      · rw [if_neg c3] at h
        by_cases c4 : (X2_doing σ a1) = 3
        · rw [if_pos c4] at h
          refine hV.run 7 [4] (ws' := wX2 11 σ τ) (pc' := 57) (ls' := [(2, .int (X2_doing σ a1)), (0, .ref 0), (1, .int a1)]) (st' := [.int 10, .int a1, .ref 0, .int 1]) (ps := [(X2_doing σ a1).toInt = 0 + ((3 : Nat) : Int), 3 < 8, ¬ 7 < (X2_doing σ a1).toInt]) rfl ⟨(by rw [c4]; decide), (by decide), (by rw [c4]; decide), trivial⟩ ?_
          refine hV.cVi (as := [.int a1, .int 10]) (js := [0, 1, 2, 3, 4, 5, 6, 7, 8, 9, 10, 11, 12, 13, 14, 15, 16, 17, 18]) (rest := [.int 1]) (st := [.int 10, .int a1, .ref 0, .int 1]) (ws2 := wX2 11 σ τ) (pc2 := 60) kX2_81 (c_X2_get l σ τ a1 10) rfl rfl rfl rfl rfl rfl rfl rfl rfl rfl rfl rfl ?_
          refine hV.run 1 [] (ws' := wX2 11 σ τ) (pc' := 61) (ls' := [(2, .int (X2_doing σ a1)), (0, .ref 0), (1, .int a1)]) (st' := [.int (1 <<< ((X2_get σ a1 10) &&& 31))]) (ps := []) rfl trivial ?_
          cases h
          exact hV.ri rfl rfl rfl hP
        · rw [if_neg c4] at h
          by_cases c5 : (X2_doing σ a1) = 4
          · rw [if_pos c5] at h
            refine hV.run 4 [5] (ws' := wX2 11 σ τ) (pc' := 63) (ls' := [(2, .int (X2_doing σ a1)), (0, .ref 0), (1, .int a1)]) (st' := [.ref 0]) (ps := [(X2_doing σ a1).toInt = 0 + ((4 : Nat) : Int), 4 < 8, ¬ 7 < (X2_doing σ a1).toInt]) rfl ⟨(by rw [c5]; decide), (by decide), (by rw [c5]; decide), trivial⟩ ?_
            obtain ⟨q6, hq6, h⟩ := am_bind h
            refine hV.cVi (as := []) (js := [0, 1, 2, 3, 4, 5, 6, 7, 8, 9, 10, 11, 12, 13, 14, 15, 16, 17, 18]) (rest := []) (st := [.ref 0]) (ws2 := wX2 11 σ τ) (pc2 := 66) kX2_233 (c_X2_unended l n σ τ q6 hq6) rfl rfl rfl rfl rfl rfl rfl rfl rfl rfl rfl rfl ?_
            refine hV.run 6 [] (ws' := wX2 11 σ τ) (pc' := 72) (ls' := [(2, .int (X2_doing σ a1)), (0, .ref 0), (1, .int a1)]) (st' := [.int (q6 &&& ((1 <<< (a1 &&& 31)) ^^^ (-1)))]) (ps := []) rfl trivial ?_
            cases h
            exact hV.ri rfl rfl rfl hP
          · rw [if_neg c5] at h
            by_cases c7 : (X2_doing σ a1) = 5
            · rw [if_pos c7] at h
              refine hV.run 6 [6] (ws' := wX2 11 σ τ) (pc' := 78) (ls' := [(2, .int (X2_doing σ a1)), (0, .ref 0), (1, .int a1)]) (st' := [.int a1, .ref 2]) (ps := [(X2_doing σ a1).toInt = 0 + ((5 : Nat) : Int), 5 < 8, ¬ 7 < (X2_doing σ a1).toInt]) rfl ⟨(by rw [c7]; decide), (by decide), (by rw [c7]; decide), trivial⟩ ?_
              obtain ⟨q8, hq8, h⟩ := am_bind h
              refine hV.cVi (as := [.int a1]) (js := [2, 3, 4, 5, 6]) (rest := []) (st := [.int a1, .ref 2]) (ws2 := wX2 11 σ τ) (pc2 := 81) kX2_154 (c_X6_begunBy l n (am_sub σ 2) a1 q8 hq8) rfl rfl rfl rfl rfl rfl rfl rfl rfl rfl rfl rfl ?_
              cases h
              exact hV.ri rfl rfl rfl hP
            · rw [if_neg c7] at h
              by_cases c9 : (X2_doing σ a1) = 6
              · rw [if_pos c9] at h
                refine hV.run 5 [7] (ws' := wX2 11 σ τ) (pc' := 84) (ls' := [(2, .int (X2_doing σ a1)), (0, .ref 0), (1, .int a1)]) (st' := [.int (X2_doing σ a1), .ref 0]) (ps := [(X2_doing σ a1).toInt = 0 + ((6 : Nat) : Int), 6 < 8, ¬ 7 < (X2_doing σ a1).toInt]) rfl ⟨(by rw [c9]; decide), (by decide), (by rw [c9]; decide), trivial⟩ ?_
                obtain ⟨q10, hq10, h⟩ := am_bind h
                refine hV.cVi (as := [.int (X2_doing σ a1)]) (js := [0, 1, 2, 3, 4, 5, 6, 7, 8, 9, 10, 11, 12, 13, 14, 15, 16, 17, 18]) (rest := []) (st := [.int (X2_doing σ a1), .ref 0]) (ws2 := wX2 11 σ τ) (pc2 := 87) kX2_157 (c_X2_notDoing l n σ τ (X2_doing σ a1) q10 hq10) rfl rfl rfl rfl rfl rfl rfl rfl rfl rfl rfl rfl ?_
                cases h
                exact hV.ri rfl rfl rfl hP
              · rw [if_neg c9] at h
                by_cases c11 : (X2_doing σ a1) = 7
                · rw [if_pos c11] at h
                  refine hV.run 5 [8] (ws' := wX2 11 σ τ) (pc' := 84) (ls' := [(2, .int (X2_doing σ a1)), (0, .ref 0), (1, .int a1)]) (st' := [.int (X2_doing σ a1), .ref 0]) (ps := [(X2_doing σ a1).toInt = 0 + ((7 : Nat) : Int), 7 < 8, ¬ 7 < (X2_doing σ a1).toInt]) rfl ⟨(by rw [c11]; decide), (by decide), (by rw [c11]; decide), trivial⟩ ?_
                  obtain ⟨q12, hq12, h⟩ := am_bind h
                  refine hV.cVi (as := [.int (X2_doing σ a1)]) (js := [0, 1, 2, 3, 4, 5, 6, 7, 8, 9, 10, 11, 12, 13, 14, 15, 16, 17, 18]) (rest := []) (st := [.int (X2_doing σ a1), .ref 0]) (ws2 := wX2 11 σ τ) (pc2 := 87) kX2_157 (c_X2_notDoing l n σ τ (X2_doing σ a1) q12 hq12) rfl rfl rfl rfl rfl rfl rfl rfl rfl rfl rfl rfl ?_
                  cases h
                  exact hV.ri rfl rfl rfl hP
                · rw [if_neg c11] at h
                  refine hV.run 4 [0] (ws' := wX2 11 σ τ) (pc' := 89) (ls' := [(2, .int (X2_doing σ a1)), (0, .ref 0), (1, .int a1)]) (st' := [.int 0]) (ps := [(X2_doing σ a1).toInt < 0 ∨ 7 < (X2_doing σ a1).toInt]) rfl ⟨(by have c1_ := am_ne c1 (by decide : (0 : Int32).toInt = 0); have c2_ := am_ne c2 (by decide : (1 : Int32).toInt = 1); have c3_ := am_ne c3 (by decide : (2 : Int32).toInt = 2); have c4_ := am_ne c4 (by decide : (3 : Int32).toInt = 3); have c5_ := am_ne c5 (by decide : (4 : Int32).toInt = 4); have c7_ := am_ne c7 (by decide : (5 : Int32).toInt = 5); have c9_ := am_ne c9 (by decide : (6 : Int32).toInt = 6); have c11_ := am_ne c11 (by decide : (7 : Int32).toInt = 7); omega), trivial⟩ ?_
                  cases h
                  exact hV.ri rfl rfl rfl hP

