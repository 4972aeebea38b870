def wC8 (σ : am_M) : am_W := [.inl (0, 2211, .inl (σ 0))]
def X8_someLocks_J37 (n : Nat) (kont2 : am_M → Int32 → Option (Bool × am_M)) (σ : am_M) (l1 : Int32) : Option (Bool × am_M) := kont2 σ (l1 + 1)
set_option maxRecDepth 100000 in
set_option maxHeartbeats 4000000 in
theorem p_X8_someLocks_J37 {l : Launch} {Post : Option Value → am_W → Prop} {V : am_VT} (hV : am_B l RX8 false 3 (am_cdT' tX8_someLocks) (am_rfL rfX8) (some .boolean) Post 36 V) (n : Nat) (res : (Bool × am_M)) (hP : Post (some (.int (b2i res.1))) (wX8 res.2)) (kont2 : am_M → Int32 → Option (Bool × am_M)) (hk2 : ∀ (σ : am_M) (l1 : Int32), kont2 σ l1 = some res → V (wX8 σ) 2 [(0, .ref 0), (1, .int l1)] []) (σ : am_M) (l1 : Int32) (h : X8_someLocks_J37 n kont2 σ l1 = some res) : V (wX8 σ) 37 [(0, .ref 0), (1, .int l1)] [] := by
  unfold X8_someLocks_J37 at h
  refine hV.run 2 [] (ws' := wX8 σ) (pc' := 2) (ls' := [(1, .int (l1 + 1)), (0, .ref 0)]) (st' := []) (ps := []) rfl trivial ?_
  refine hV.pick [1, 0] (ls' := [(0, .ref 0), (1, .int (l1 + 1))]) rfl ?_
  exact hk2 σ (l1 + 1) h
def X8_someLocks_B2 (n : Nat) (kont2 : am_M → Int32 → Option (Bool × am_M)) (σ : am_M) (l1 : Int32) : Option (Bool × am_M) := if (σ 0 46) ≤ l1 then (some (false, σ)) else (if l1 < 0 ∨ 201 ≤ l1.toNatClampNeg then none else (if (σ 23 l1.toNatClampNeg) = 0 then (X8_someLocks_J37 n kont2 σ l1) else (X8_bring n σ l1).bind (fun q4 => (X8_kindNow n q4).bind (fun q5 => if q5 = 2 then (some (true, q4)) else (X8_someLocks_J37 n kont2 q4 l1)))))
def X8_someLocks_L2 (n : Nat) : Nat → am_M → Int32 → Option (Bool × am_M)
 | 0 => fun _ _ => none
 | k + 1 => fun σ l1 => X8_someLocks_B2 n (X8_someLocks_L2 n k) σ l1
set_option maxRecDepth 100000 in
set_option maxHeartbeats 4000000 in
theorem p_X8_someLocks_B2 {l : Launch} {Post : Option Value → am_W → Prop} {V : am_VT} (hV : am_B l RX8 false 3 (am_cdT' tX8_someLocks) (am_rfL rfX8) (some .boolean) Post 36 V) (n : Nat) (res : (Bool × am_M)) (hP : Post (some (.int (b2i res.1))) (wX8 res.2)) (kont2 : am_M → Int32 → Option (Bool × am_M)) (hk2 : ∀ (σ : am_M) (l1 : Int32), kont2 σ l1 = some res → V (wX8 σ) 2 [(0, .ref 0), (1, .int l1)] []) (σ : am_M) (l1 : Int32) (h : X8_someLocks_B2 n kont2 σ l1 = some res) : V (wX8 σ) 2 [(0, .ref 0), (1, .int l1)] [] := by
  unfold X8_someLocks_B2 at h
  by_cases c1 : (σ 0 46) ≤ l1
  · rw [if_pos c1] at h
    refine hV.run 5 [1] (ws' := wX8 σ) (pc' := 44) (ls' := [(0, .ref 0), (1, .int l1)]) (st' := [.int 0]) (ps := [(σ 0 46) ≤ l1]) rfl ⟨c1, trivial⟩ ?_
    cases h
    exact hV.rz rfl rfl rfl (Or.inl rfl) hP
  · rw [if_neg c1] at h
    by_cases g2 : l1 < 0 ∨ 201 ≤ l1.toNatClampNeg
    · rw [if_pos g2] at h; cases h
    rw [if_neg g2] at h
    by_cases c3 : (σ 23 l1.toNatClampNeg) = 0
    · rw [if_pos c3] at h
      refine hV.run 10 [0, 0] (ws' := wX8 σ) (pc' := 37) (ls' := [(0, .ref 0), (1, .int l1)]) (st' := []) (ps := [¬ (σ 0 46) ≤ l1, vp_in l1 201, (σ 23 l1.toNatClampNeg) = 0]) rfl ⟨c1, g2, c3, trivial⟩ ?_
      exact p_X8_someLocks_J37 hV n res hP kont2 hk2 σ l1 h
    · rw [if_neg c3] at h
      refine hV.run 11 [0, 1] (ws' := wX8 σ) (pc' := 24) (ls' := [(0, .ref 0), (1, .int l1)]) (st' := [.int l1, .ref 0]) (ps := [¬ (σ 0 46) ≤ l1, vp_in l1 201, ¬ (σ 23 l1.toNatClampNeg) = 0]) rfl ⟨c1, g2, c3, trivial⟩ ?_
      obtain ⟨q4, hq4, h⟩ := am_bind h
      refine hV.cOv (as := [.int l1]) (rest := []) (st := [.int l1, .ref 0]) (ws2 := wX8 q4) (pc2 := 27) kX8_444 (c_X8_bring l n σ l1 q4 hq4) rfl rfl rfl rfl rfl rfl rfl rfl rfl ?_
      refine hV.run 1 [] (ws' := wX8 q4) (pc' := 28) (ls' := [(0, .ref 0), (1, .int l1)]) (st' := [.ref 0]) (ps := []) rfl trivial ?_
      obtain ⟨q5, hq5, h⟩ := am_bind h
      refine hV.cOi (as := []) (rest := []) (st := [.ref 0]) (ws2 := wX8 q4) (pc2 := 31) kX8_460 (c_X8_kindNow l n q4 q5 hq5) rfl rfl rfl rfl rfl rfl rfl rfl rfl ?_
      by_cases c6 : q5 = 2
      · rw [if_pos c6] at h
        refine hV.run 3 [0] (ws' := wX8 q4) (pc' := 36) (ls' := [(0, .ref 0), (1, .int l1)]) (st' := [.int 1]) (ps := [q5 = 2]) rfl ⟨c6, trivial⟩ ?_
        cases h
        exact hV.rz rfl rfl rfl (Or.inr rfl) hP
      · rw [if_neg c6] at h
        refine hV.run 2 [1] (ws' := wX8 q4) (pc' := 37) (ls' := [(0, .ref 0), (1, .int l1)]) (st' := []) (ps := [¬ q5 = 2]) rfl ⟨c6, trivial⟩ ?_
        exact p_X8_someLocks_J37 hV n res hP kont2 hk2 q4 l1 h
theorem p_X8_someLocks_L2 {l : Launch} {Post : Option Value → am_W → Prop} {V : am_VT} (hV : am_B l RX8 false 3 (am_cdT' tX8_someLocks) (am_rfL rfX8) (some .boolean) Post 36 V) (n : Nat) (res : (Bool × am_M)) (hP : Post (some (.int (b2i res.1))) (wX8 res.2)) : ∀ (k : Nat) (σ : am_M) (l1 : Int32) (h : X8_someLocks_L2 n k σ l1 = some res), V (wX8 σ) 2 [(0, .ref 0), (1, .int l1)] [] := by
  intro k
  induction k with
  | zero => intro σ l1 h; cases h
  | succ k ih => intro σ l1 h; exact p_X8_someLocks_B2 hV n res hP _ ih σ l1 h
def X8_someLocks (n : Nat) (σ : am_M) : Option (Bool × am_M) := X8_someLocks_L2 n n σ 0
set_option maxRecDepth 100000 in
set_option maxHeartbeats 4000000 in
theorem c_X8_someLocks (l : Launch) (n : Nat) (σ : am_M) (res : (Bool × am_M)) (h : X8_someLocks n σ = some res) : am_Con l yX8_someLocks cX8_someLocks 2 (some .boolean) 3 [.ref 0] (wX8 σ) (fun (r : Option Value) (w : am_W) => r = (some (.int (b2i res.1))) ∧ w = (wX8 res.2)) := by
  refine am_metn (n0 := 36) (own := RX8) (cd := am_cdT' tX8_someLocks) (rf := am_rfL rfX8) (ini := false) rfl (by decide +kernel) rfl (by decide) dX8_someLocks rfX8_ok (Nat.le_of_ble_eq_true rfl) ?_
  intro V hV
  have hP : (fun (r : Option Value) (w : am_W) => r = (some (.int (b2i res.1))) ∧ w = (wX8 res.2)) (some (.int (b2i res.1))) (wX8 res.2) := ⟨rfl, rfl⟩
  show V (wX8 σ) 0 [(0, .ref 0)] []
  unfold X8_someLocks at h
  refine hV.run 2 [] (ws' := wX8 σ) (pc' := 2) (ls' := [(1, .int 0), (0, .ref 0)]) (st' := []) (ps := []) rfl trivial ?_
  refine hV.pick [1, 0] (ls' := [(0, .ref 0), (1, .int 0)]) rfl ?_
  exact p_X8_someLocks_L2 hV n res hP n σ 0 h

def X8_compare_B2 (n : Nat) (σ : am_M) (kont2 : Int32 → Int32 → Int32 → Option Int32) (l1 : Int32) (l2 : Int32) (l3 : Int32) : Option Int32 := if 11 ≤ l3 then (some 0) else (if (l1 + l3) < 0 ∨ 2211 ≤ (l1 + l3).toNatClampNeg then none else (if (l2 + l3) < 0 ∨ 2211 ≤ (l2 + l3).toNatClampNeg then none else (if (σ 0 (l1 + l3).toNatClampNeg) = (σ 0 (l2 + l3).toNatClampNeg) then (kont2 l1 l2 (l3 + 1)) else (if (l1 + l3) < 0 ∨ 2211 ≤ (l1 + l3).toNatClampNeg then none else (if (l2 + l3) < 0 ∨ 2211 ≤ (l2 + l3).toNatClampNeg then none else (if (σ 0 (l2 + l3).toNatClampNeg) ≤ (σ 0 (l1 + l3).toNatClampNeg) then (some 1) else (some (-1))))))))
def X8_compare_L2 (n : Nat) (σ : am_M) : Nat → Int32 → Int32 → Int32 → Option Int32
 | 0 => fun _ _ _ => none
 | k + 1 => fun l1 l2 l3 => X8_compare_B2 n σ (X8_compare_L2 n σ k) l1 l2 l3
set_option maxRecDepth 100000 in
set_option maxHeartbeats 4000000 in
theorem p_X8_compare_B2 {l : Launch} {Post : Option Value → am_W → Prop} {V : am_VT} (hV : am_B l RX8 false 1 (am_cdT' tX8_compare) (am_rfL rfX8) (some .int) Post 1 V) (n : Nat) (σ : am_M) (res : Int32) (hP : Post (some (.int res)) (wC8 σ)) (kont2 : Int32 → Int32 → Int32 → Option Int32) (hk2 : ∀ (l1 : Int32) (l2 : Int32) (l3 : Int32), kont2 l1 l2 l3 = some res → V (wC8 σ) 2 [(0, .ref 0), (1, .int l1), (2, .int l2), (3, .int l3)] []) (l1 : Int32) (l2 : Int32) (l3 : Int32) (h : X8_compare_B2 n σ kont2 l1 l2 l3 = some res) : V (wC8 σ) 2 [(0, .ref 0), (1, .int l1), (2, .int l2), (3, .int l3)] [] := by
  unfold X8_compare_B2 at h
  by_cases c1 : 11 ≤ l3
  · rw [if_pos c1] at h
    refine hV.run 4 [1] (ws' := wC8 σ) (pc' := 47) (ls' := [(0, .ref 0), (1, .int l1), (2, .int l2), (3, .int l3)]) (st' := [.int 0]) (ps := [11 ≤ l3]) rfl ⟨c1, trivial⟩ ?_
    cases h
    exact hV.ri rfl rfl rfl hP
  · rw [if_neg c1] at h
    by_cases g2 : (l1 + l3) < 0 ∨ 2211 ≤ (l1 + l3).toNatClampNeg
    · rw [if_pos g2] at h; cases h
    rw [if_neg g2] at h
    by_cases g3 : (l2 + l3) < 0 ∨ 2211 ≤ (l2 + l3).toNatClampNeg
    · rw [if_pos g3] at h; cases h
    rw [if_neg g3] at h
    by_cases c4 : (σ 0 (l1 + l3).toNatClampNeg) = (σ 0 (l2 + l3).toNatClampNeg)
    · rw [if_pos c4] at h
      refine hV.run 16 [0, 1] (ws' := wC8 σ) (pc' := 2) (ls' := [(3, .int (l3 + 1)), (0, .ref 0), (1, .int l1), (2, .int l2)]) (st' := []) (ps := [¬ 11 ≤ l3, vp_in (l1 + l3) 2211, vp_in (l2 + l3) 2211, (σ 0 (l1 + l3).toNatClampNeg) = (σ 0 (l2 + l3).toNatClampNeg)]) rfl ⟨c1, g2, g3, c4, trivial⟩ ?_
      refine hV.pick [1, 2, 3, 0] (ls' := [(0, .ref 0), (1, .int l1), (2, .int l2), (3, .int (l3 + 1))]) rfl ?_
      exact hk2 l1 l2 (l3 + 1) h
    · rw [if_neg c4] at h
      by_cases g5 : (l1 + l3) < 0 ∨ 2211 ≤ (l1 + l3).toNatClampNeg
      · rw [if_pos g5] at h; cases h
      rw [if_neg g5] at h
      by_cases g6 : (l2 + l3) < 0 ∨ 2211 ≤ (l2 + l3).toNatClampNeg
      · rw [if_pos g6] at h; cases h
      rw [if_neg g6] at h
      by_cases c7 : (σ 0 (l2 + l3).toNatClampNeg) ≤ (σ 0 (l1 + l3).toNatClampNeg)
      · rw [if_pos c7] at h
        refine hV.run 26 [0, 0, 1] (ws' := wC8 σ) (pc' := 39) (ls' := [(0, .ref 0), (1, .int l1), (2, .int l2), (3, .int l3)]) (st' := [.int 1]) (ps := [¬ 11 ≤ l3, vp_in (l1 + l3) 2211, vp_in (l2 + l3) 2211, ¬ (σ 0 (l1 + l3).toNatClampNeg) = (σ 0 (l2 + l3).toNatClampNeg), vp_in (l1 + l3) 2211, vp_in (l2 + l3) 2211, (σ 0 (l2 + l3).toNatClampNeg) ≤ (σ 0 (l1 + l3).toNatClampNeg)]) rfl ⟨c1, g2, g3, c4, g5, g6, c7, trivial⟩ ?_
        cases h
        exact hV.ri rfl rfl rfl hP
      · rw [if_neg c7] at h
        refine hV.run 27 [0, 0, 0] (ws' := wC8 σ) (pc' := 39) (ls' := [(0, .ref 0), (1, .int l1), (2, .int l2), (3, .int l3)]) (st' := [.int (-1)]) (ps := [¬ 11 ≤ l3, vp_in (l1 + l3) 2211, vp_in (l2 + l3) 2211, ¬ (σ 0 (l1 + l3).toNatClampNeg) = (σ 0 (l2 + l3).toNatClampNeg), vp_in (l1 + l3) 2211, vp_in (l2 + l3) 2211, ¬ (σ 0 (l2 + l3).toNatClampNeg) ≤ (σ 0 (l1 + l3).toNatClampNeg)]) rfl ⟨c1, g2, g3, c4, g5, g6, c7, trivial⟩ ?_
        cases h
        exact hV.ri rfl rfl rfl hP
theorem p_X8_compare_L2 {l : Launch} {Post : Option Value → am_W → Prop} {V : am_VT} (hV : am_B l RX8 false 1 (am_cdT' tX8_compare) (am_rfL rfX8) (some .int) Post 1 V) (n : Nat) (σ : am_M) (res : Int32) (hP : Post (some (.int res)) (wC8 σ)) : ∀ (k : Nat) (l1 : Int32) (l2 : Int32) (l3 : Int32) (h : X8_compare_L2 n σ k l1 l2 l3 = some res), V (wC8 σ) 2 [(0, .ref 0), (1, .int l1), (2, .int l2), (3, .int l3)] [] := by
  intro k
  induction k with
  | zero => intro l1 l2 l3 h; cases h
  | succ k ih => intro l1 l2 l3 h; exact p_X8_compare_B2 hV n σ res hP _ ih l1 l2 l3 h
def X8_compare (n : Nat) (σ : am_M) (a2 : Int32) (a3 : Int32) : Option Int32 := X8_compare_L2 n σ n a2 a3 0
set_option maxRecDepth 100000 in
set_option maxHeartbeats 4000000 in
theorem c_X8_compare (l : Launch) (n : Nat) (σ : am_M) (a2 : Int32) (a3 : Int32) (res : Int32) (h : X8_compare n σ a2 a3 = some res) : am_Con l yX8_compare cX8_compare 4 (some .int) 1 [.ref 0, .int a2, .int a3] (wC8 σ) (fun (r : Option Value) (w : am_W) => r = (some (.int res)) ∧ w = (wC8 σ)) := by
  refine am_metn (n0 := 1) (own := RX8) (cd := am_cdT' tX8_compare) (rf := am_rfL rfX8) (ini := false) rfl (by decide +kernel) rfl (by decide) dX8_compare rfX8_ok (Nat.le_of_ble_eq_true rfl) ?_
  intro V hV
  have hP : (fun (r : Option Value) (w : am_W) => r = (some (.int res)) ∧ w = (wC8 σ)) (some (.int res)) (wC8 σ) := ⟨rfl, rfl⟩
  show V (wC8 σ) 0 [(0, .ref 0), (1, .int a2), (2, .int a3)] []
  unfold X8_compare at h
  refine hV.run 2 [] (ws' := wC8 σ) (pc' := 2) (ls' := [(3, .int 0), (0, .ref 0), (1, .int a2), (2, .int a3)]) (st' := []) (ps := []) rfl trivial ?_
  refine hV.pick [1, 2, 3, 0] (ls' := [(0, .ref 0), (1, .int a2), (2, .int a3), (3, .int 0)]) rfl ?_
  exact p_X8_compare_L2 hV n σ res hP n a2 a3 0 h

def X8_showEnding_B274 (n : Nat) (kont274 : am_M → Int32 → Option am_M) (σ : am_M) (l5 : Int32) : Option am_M := if (11 * (σ 0 51)) ≤ l5 then (some σ) else (if (l5 + 11) < 0 ∨ 2211 ≤ (l5 + 11).toNatClampNeg then none else (if l5 < 0 ∨ 2211 ≤ l5.toNatClampNeg then none else (kont274 (sC σ 25 (upd (σ 25) l5.toNatClampNeg (σ 25 (l5 + 11).toNatClampNeg))) (l5 + 1))))
def X8_showEnding_L274 (n : Nat) : Nat → am_M → Int32 → Option am_M
 | 0 => fun _ _ => none
 | k + 1 => fun σ l5 => X8_showEnding_B274 n (X8_showEnding_L274 n k) σ l5
set_option maxRecDepth 100000 in
set_option maxHeartbeats 4000000 in
theorem p_X8_showEnding_B274 {l : Launch} {Post : Option Value → am_W → Prop} {V : am_VT} (hV : am_B l RX8 false 3 (am_cdT' tX8_showEnding) (am_rfL rfX8) none Post 36 V) (n : Nat) (res : am_M) (hP : Post none (wX8 res)) (kont274 : am_M → Int32 → Option am_M) (hk274 : ∀ (σ : am_M) (l5 : Int32), kont274 σ l5 = some res → V (wX8 σ) 274 [(0, .ref 0), (5, .int l5)] []) (σ : am_M) (l5 : Int32) (h : X8_showEnding_B274 n kont274 σ l5 = some res) : V (wX8 σ) 274 [(0, .ref 0), (5, .int l5)] [] := by
  unfold X8_showEnding_B274 at h
  by_cases c1 : (11 * (σ 0 51)) ≤ l5
  · rw [if_pos c1] at h
    refine hV.run 6 [1] (ws' := wX8 σ) (pc' := 309) (ls' := [(0, .ref 0), (5, .int l5)]) (st' := []) (ps := [(11 * (σ 0 51)) ≤ l5]) rfl ⟨c1, trivial⟩ ?_
    cases h
    exact hV.rv rfl rfl rfl hP
  · rw [if_neg c1] at h
    by_cases g2 : (l5 + 11) < 0 ∨ 2211 ≤ (l5 + 11).toNatClampNeg
    · rw [if_pos g2] at h; cases h
    rw [if_neg g2] at h
    by_cases g3 : l5 < 0 ∨ 2211 ≤ l5.toNatClampNeg
    · rw [if_pos g3] at h; cases h
    rw [if_neg g3] at h
    refine hV.run 18 [0] (ws' := wX8 (sC σ 25 (upd (σ 25) l5.toNatClampNeg (σ 25 (l5 + 11).toNatClampNeg)))) (pc' := 274) (ls' := [(5, .int (l5 + 1)), (0, .ref 0)]) (st' := []) (ps := [¬ (11 * (σ 0 51)) ≤ l5, vp_in (l5 + 11) 2211, vp_in l5 2211]) rfl ⟨c1, g2, g3, trivial⟩ ?_
    refine hV.pick [1, 0] (ls' := [(0, .ref 0), (5, .int (l5 + 1))]) rfl ?_
    exact hk274 (sC σ 25 (upd (σ 25) l5.toNatClampNeg (σ 25 (l5 + 11).toNatClampNeg))) (l5 + 1) h
theorem p_X8_showEnding_L274 {l : Launch} {Post : Option Value → am_W → Prop} {V : am_VT} (hV : am_B l RX8 false 3 (am_cdT' tX8_showEnding) (am_rfL rfX8) none Post 36 V) (n : Nat) (res : am_M) (hP : Post none (wX8 res)) : ∀ (k : Nat) (σ : am_M) (l5 : Int32) (h : X8_showEnding_L274 n k σ l5 = some res), V (wX8 σ) 274 [(0, .ref 0), (5, .int l5)] [] := by
  intro k
  induction k with
  | zero => intro σ l5 h; cases h
  | succ k ih => intro σ l5 h; exact p_X8_showEnding_B274 hV n res hP _ ih σ l5 h
def X8_showEnding_J250 (n : Nat) (σ : am_M) (l3 : Int32) (s0 : Int32) : Option am_M := if s0 = 0 then (some (sC σ 0 (am_u (σ 0) 51 ((σ 0 51) + 1)))) else (X8_showEnding_L274 n n σ (11 * l3))
set_option maxRecDepth 100000 in
set_option maxHeartbeats 4000000 in
theorem p_X8_showEnding_J250 {l : Launch} {Post : Option Value → am_W → Prop} {V : am_VT} (hV : am_B l RX8 false 3 (am_cdT' tX8_showEnding) (am_rfL rfX8) none Post 36 V) (n : Nat) (res : am_M) (hP : Post none (wX8 res)) (σ : am_M) (l3 : Int32) (s0 : Int32) (h : X8_showEnding_J250 n σ l3 s0 = some res) : V (wX8 σ) 250 [(0, .ref 0), (3, .int l3)] [.int s0] := by
  unfold X8_showEnding_J250 at h
  by_cases c1 : s0 = 0
  · rw [if_pos c1] at h
    refine hV.run 9 [0] (ws' := wX8 (sC σ 0 (am_u (σ 0) 51 ((σ 0 51) + 1)))) (pc' := 267) (ls' := [(4, .int s0), (0, .ref 0), (3, .int l3)]) (st' := []) (ps := [s0 = 0]) rfl ⟨c1, trivial⟩ ?_
    cases h
    exact hV.rv rfl rfl rfl hP
  · rw [if_neg c1] at h
    refine hV.run 7 [1] (ws' := wX8 σ) (pc' := 274) (ls' := [(5, .int (11 * l3)), (4, .int s0), (0, .ref 0), (3, .int l3)]) (st' := []) (ps := [¬ s0 = 0]) rfl ⟨c1, trivial⟩ ?_
    refine hV.pick [2, 0] (ls' := [(0, .ref 0), (5, .int (11 * l3))]) rfl ?_
    exact p_X8_showEnding_L274 hV n res hP n σ (11 * l3) h
def X8_showEnding_J249 (n : Nat) (σ : am_M) (l3 : Int32) : Option am_M := X8_showEnding_J250 n σ l3 0
set_option maxRecDepth 100000 in
set_option maxHeartbeats 4000000 in
theorem p_X8_showEnding_J249 {l : Launch} {Post : Option Value → am_W → Prop} {V : am_VT} (hV : am_B l RX8 false 3 (am_cdT' tX8_showEnding) (am_rfL rfX8) none Post 36 V) (n : Nat) (res : am_M) (hP : Post none (wX8 res)) (σ : am_M) (l3 : Int32) (h : X8_showEnding_J249 n σ l3 = some res) : V (wX8 σ) 249 [(0, .ref 0), (3, .int l3)] [] := by
  unfold X8_showEnding_J249 at h
  refine hV.run 1 [] (ws' := wX8 σ) (pc' := 250) (ls' := [(0, .ref 0), (3, .int l3)]) (st' := [.int 0]) (ps := []) rfl trivial ?_
  exact p_X8_showEnding_J250 hV n res hP σ l3 0 h
def X8_showEnding_J221 (n : Nat) (σ : am_M) (l3 : Int32) : Option am_M := if l3 ≤ 0 then (X8_showEnding_J249 n σ l3) else (X8_compare n (am_sub σ 25) (11 * (l3 - 1)) (11 * l3)).bind (fun q2 => if q2 = 0 then (X8_showEnding_J250 n σ l3 1) else (X8_showEnding_J249 n σ l3))
set_option maxRecDepth 100000 in
set_option maxHeartbeats 4000000 in
theorem p_X8_showEnding_J221 {l : Launch} {Post : Option Value → am_W → Prop} {V : am_VT} (hV : am_B l RX8 false 3 (am_cdT' tX8_showEnding) (am_rfL rfX8) none Post 36 V) (n : Nat) (res : am_M) (hP : Post none (wX8 res)) (σ : am_M) (l3 : Int32) (h : X8_showEnding_J221 n σ l3 = some res) : V (wX8 σ) 221 [(0, .ref 0), (3, .int l3)] [] := by
  unfold X8_showEnding_J221 at h
  by_cases c1 : l3 ≤ 0
  · rw [if_pos c1] at h
    refine hV.run 2 [1] (ws' := wX8 σ) (pc' := 249) (ls' := [(0, .ref 0), (3, .int l3)]) (st' := []) (ps := [l3 ≤ 0]) rfl ⟨c1, trivial⟩ ?_
    exact p_X8_showEnding_J249 hV n res hP σ l3 h
  · rw [if_neg c1] at h
    refine hV.run 12 [0] (ws' := wX8 σ) (pc' := 239) (ls' := [(0, .ref 0), (3, .int l3)]) (st' := [.int (11 * l3), .int (11 * (l3 - 1)), .ref 25]) (ps := [¬ l3 ≤ 0]) rfl ⟨c1, trivial⟩ ?_
    obtain ⟨q2, hq2, h⟩ := am_bind h
    refine hV.cSi (as := [.ref 0, .int (11 * (l3 - 1)), .int (11 * l3)]) (js := [25]) (rest := []) (st := [.int (11 * l3), .int (11 * (l3 - 1)), .ref 25]) (ws2 := wX8 σ) (pc2 := 242) kX8_466 (c_X8_compare l n (am_sub σ 25) (11 * (l3 - 1)) (11 * l3) q2 hq2) rfl rfl rfl rfl rfl rfl rfl rfl rfl rfl ?_
    by_cases c3 : q2 = 0
    · rw [if_pos c3] at h
      refine hV.run 3 [0] (ws' := wX8 σ) (pc' := 250) (ls' := [(0, .ref 0), (3, .int l3)]) (st' := [.int 1]) (ps := [q2 = 0]) rfl ⟨c3, trivial⟩ ?_
      exact p_X8_showEnding_J250 hV n res hP σ l3 1 h
    · rw [if_neg c3] at h
      refine hV.run 1 [1] (ws' := wX8 σ) (pc' := 249) (ls' := [(0, .ref 0), (3, .int l3)]) (st' := []) (ps := [¬ q2 = 0]) rfl ⟨c3, trivial⟩ ?_
      exact p_X8_showEnding_J249 hV n res hP σ l3 h
def X8_showEnding_B146 (n : Nat) (kont119 : am_M → Int32 → Option am_M) (kont146 : am_M → Int32 → Int32 → Option am_M) (σ : am_M) (l3 : Int32) (l4 : Int32) : Option am_M := if 11 ≤ l4 then (kont119 σ (l3 + (-1))) else (if ((11 * l3) + l4) < 0 ∨ 2211 ≤ ((11 * l3) + l4).toNatClampNeg then none else (if ((11 * (l3 - 1)) + l4) < 0 ∨ 2211 ≤ ((11 * (l3 - 1)) + l4).toNatClampNeg then none else (if ((11 * l3) + l4) < 0 ∨ 2211 ≤ ((11 * l3) + l4).toNatClampNeg then none else (if ((11 * (l3 - 1)) + l4) < 0 ∨ 2211 ≤ ((11 * (l3 - 1)) + l4).toNatClampNeg then none else (kont146 (sC σ 25 (upd (upd (σ 25) ((11 * l3) + l4).toNatClampNeg (σ 25 ((11 * (l3 - 1)) + l4).toNatClampNeg)) ((11 * (l3 - 1)) + l4).toNatClampNeg (σ 25 ((11 * l3) + l4).toNatClampNeg))) l3 (l4 + 1))))))
def X8_showEnding_L146 (n : Nat) (kont119 : am_M → Int32 → Option am_M) : Nat → am_M → Int32 → Int32 → Option am_M
 | 0 => fun _ _ _ => none
 | k + 1 => fun σ l3 l4 => X8_showEnding_B146 n kont119 (X8_showEnding_L146 n kont119 k) σ l3 l4
set_option maxRecDepth 100000 in
set_option maxHeartbeats 4000000 in
theorem p_X8_showEnding_B146 {l : Launch} {Post : Option Value → am_W → Prop} {V : am_VT} (hV : am_B l RX8 false 3 (am_cdT' tX8_showEnding) (am_rfL rfX8) none Post 36 V) (n : Nat) (res : am_M) (hP : Post none (wX8 res)) (kont119 : am_M → Int32 → Option am_M) (hk119 : ∀ (σ : am_M) (l3 : Int32), kont119 σ l3 = some res → V (wX8 σ) 119 [(0, .ref 0), (3, .int l3)] []) (kont146 : am_M → Int32 → Int32 → Option am_M) (hk146 : ∀ (σ : am_M) (l3 : Int32) (l4 : Int32), kont146 σ l3 l4 = some res → V (wX8 σ) 146 [(0, .ref 0), (3, .int l3), (4, .int l4)] []) (σ : am_M) (l3 : Int32) (l4 : Int32) (h : X8_showEnding_B146 n kont119 kont146 σ l3 l4 = some res) : V (wX8 σ) 146 [(0, .ref 0), (3, .int l3), (4, .int l4)] [] := by
  unfold X8_showEnding_B146 at h
  by_cases c1 : 11 ≤ l4
  · rw [if_pos c1] at h
    refine hV.run 5 [1] (ws' := wX8 σ) (pc' := 119) (ls' := [(3, .int (l3 + (-1))), (0, .ref 0), (4, .int l4)]) (st' := []) (ps := [11 ≤ l4]) rfl ⟨c1, trivial⟩ ?_
    refine hV.pick [1, 0] (ls' := [(0, .ref 0), (3, .int (l3 + (-1)))]) rfl ?_
    exact hk119 σ (l3 + (-1)) h
  · rw [if_neg c1] at h
    by_cases g2 : ((11 * l3) + l4) < 0 ∨ 2211 ≤ ((11 * l3) + l4).toNatClampNeg
    · rw [if_pos g2] at h; cases h
    rw [if_neg g2] at h
    by_cases g3 : ((11 * (l3 - 1)) + l4) < 0 ∨ 2211 ≤ ((11 * (l3 - 1)) + l4).toNatClampNeg
    · rw [if_pos g3] at h; cases h
    rw [if_neg g3] at h
    by_cases g4 : ((11 * l3) + l4) < 0 ∨ 2211 ≤ ((11 * l3) + l4).toNatClampNeg
    · rw [if_pos g4] at h; cases h
    rw [if_neg g4] at h
    by_cases g5 : ((11 * (l3 - 1)) + l4) < 0 ∨ 2211 ≤ ((11 * (l3 - 1)) + l4).toNatClampNeg
    · rw [if_pos g5] at h; cases h
    rw [if_neg g5] at h
    refine hV.run 43 [0] (ws' := wX8 (sC σ 25 (upd (upd (σ 25) ((11 * l3) + l4).toNatClampNeg (σ 25 ((11 * (l3 - 1)) + l4).toNatClampNeg)) ((11 * (l3 - 1)) + l4).toNatClampNeg (σ 25 ((11 * l3) + l4).toNatClampNeg)))) (pc' := 146) (ls' := [(4, .int (l4 + 1)), (5, .int (σ 25 ((11 * l3) + l4).toNatClampNeg)), (0, .ref 0), (3, .int l3)]) (st' := []) (ps := [¬ 11 ≤ l4, vp_in ((11 * l3) + l4) 2211, vp_in ((11 * (l3 - 1)) + l4) 2211, vp_in ((11 * l3) + l4) 2211, vp_in ((11 * (l3 - 1)) + l4) 2211]) rfl ⟨c1, g2, g3, g4, g5, trivial⟩ ?_
    refine hV.pick [2, 3, 0] (ls' := [(0, .ref 0), (3, .int l3), (4, .int (l4 + 1))]) rfl ?_
    exact hk146 (sC σ 25 (upd (upd (σ 25) ((11 * l3) + l4).toNatClampNeg (σ 25 ((11 * (l3 - 1)) + l4).toNatClampNeg)) ((11 * (l3 - 1)) + l4).toNatClampNeg (σ 25 ((11 * l3) + l4).toNatClampNeg))) l3 (l4 + 1) h
theorem p_X8_showEnding_L146 {l : Launch} {Post : Option Value → am_W → Prop} {V : am_VT} (hV : am_B l RX8 false 3 (am_cdT' tX8_showEnding) (am_rfL rfX8) none Post 36 V) (n : Nat) (res : am_M) (hP : Post none (wX8 res)) (kont119 : am_M → Int32 → Option am_M) (hk119 : ∀ (σ : am_M) (l3 : Int32), kont119 σ l3 = some res → V (wX8 σ) 119 [(0, .ref 0), (3, .int l3)] []) : ∀ (k : Nat) (σ : am_M) (l3 : Int32) (l4 : Int32) (h : X8_showEnding_L146 n kont119 k σ l3 l4 = some res), V (wX8 σ) 146 [(0, .ref 0), (3, .int l3), (4, .int l4)] [] := by
  intro k
  induction k with
  | zero => intro σ l3 l4 h; cases h
  | succ k ih => intro σ l3 l4 h; exact p_X8_showEnding_B146 hV n res hP kont119 hk119 _ ih σ l3 l4 h
def X8_showEnding_B119 (n : Nat) (kont119 : am_M → Int32 → Option am_M) (σ : am_M) (l3 : Int32) : Option am_M := if l3 ≤ 0 then (X8_showEnding_J221 n σ l3) else (X8_compare n (am_sub σ 25) (11 * (l3 - 1)) (11 * l3)).bind (fun q2 => if q2 ≤ 0 then (X8_showEnding_J221 n σ l3) else (X8_showEnding_L146 n kont119 n σ l3 0))
def X8_showEnding_L119 (n : Nat) : Nat → am_M → Int32 → Option am_M
 | 0 => fun _ _ => none
 | k + 1 => fun σ l3 => X8_showEnding_B119 n (X8_showEnding_L119 n k) σ l3
set_option maxRecDepth 100000 in
set_option maxHeartbeats 4000000 in
theorem p_X8_showEnding_B119 {l : Launch} {Post : Option Value → am_W → Prop} {V : am_VT} (hV : am_B l RX8 false 3 (am_cdT' tX8_showEnding) (am_rfL rfX8) none Post 36 V) (n : Nat) (res : am_M) (hP : Post none (wX8 res)) (kont119 : am_M → Int32 → Option am_M) (hk119 : ∀ (σ : am_M) (l3 : Int32), kont119 σ l3 = some res → V (wX8 σ) 119 [(0, .ref 0), (3, .int l3)] []) (σ : am_M) (l3 : Int32) (h : X8_showEnding_B119 n kont119 σ l3 = some res) : V (wX8 σ) 119 [(0, .ref 0), (3, .int l3)] [] := by
  unfold X8_showEnding_B119 at h
  by_cases c1 : l3 ≤ 0
  · rw [if_pos c1] at h
    refine hV.run 2 [1] (ws' := wX8 σ) (pc' := 221) (ls' := [(0, .ref 0), (3, .int l3)]) (st' := []) (ps := [l3 ≤ 0]) rfl ⟨c1, trivial⟩ ?_
    exact p_X8_showEnding_J221 hV n res hP σ l3 h
  · rw [if_neg c1] at h
    refine hV.run 12 [0] (ws' := wX8 σ) (pc' := 137) (ls' := [(0, .ref 0), (3, .int l3)]) (st' := [.int (11 * l3), .int (11 * (l3 - 1)), .ref 25]) (ps := [¬ l3 ≤ 0]) rfl ⟨c1, trivial⟩ ?_
    obtain ⟨q2, hq2, h⟩ := am_bind h
    refine hV.cSi (as := [.ref 0, .int (11 * (l3 - 1)), .int (11 * l3)]) (js := [25]) (rest := []) (st := [.int (11 * l3), .int (11 * (l3 - 1)), .ref 25]) (ws2 := wX8 σ) (pc2 := 140) kX8_466 (c_X8_compare l n (am_sub σ 25) (11 * (l3 - 1)) (11 * l3) q2 hq2) rfl rfl rfl rfl rfl rfl rfl rfl rfl rfl ?_
    by_cases c3 : q2 ≤ 0
    · rw [if_pos c3] at h
      refine hV.run 1 [1] (ws' := wX8 σ) (pc' := 221) (ls' := [(0, .ref 0), (3, .int l3)]) (st' := []) (ps := [q2 ≤ 0]) rfl ⟨c3, trivial⟩ ?_
      exact p_X8_showEnding_J221 hV n res hP σ l3 h
    · rw [if_neg c3] at h
      refine hV.run 3 [0] (ws' := wX8 σ) (pc' := 146) (ls' := [(4, .int 0), (0, .ref 0), (3, .int l3)]) (st' := []) (ps := [¬ q2 ≤ 0]) rfl ⟨c3, trivial⟩ ?_
      refine hV.pick [1, 2, 0] (ls' := [(0, .ref 0), (3, .int l3), (4, .int 0)]) rfl ?_
      exact p_X8_showEnding_L146 hV n res hP kont119 hk119 n σ l3 0 h
theorem p_X8_showEnding_L119 {l : Launch} {Post : Option Value → am_W → Prop} {V : am_VT} (hV : am_B l RX8 false 3 (am_cdT' tX8_showEnding) (am_rfL rfX8) none Post 36 V) (n : Nat) (res : am_M) (hP : Post none (wX8 res)) : ∀ (k : Nat) (σ : am_M) (l3 : Int32) (h : X8_showEnding_L119 n k σ l3 = some res), V (wX8 σ) 119 [(0, .ref 0), (3, .int l3)] [] := by
  intro k
  induction k with
  | zero => intro σ l3 h; cases h
  | succ k ih => intro σ l3 h; exact p_X8_showEnding_B119 hV n res hP _ ih σ l3 h
def X8_showEnding_J83 (n : Nat) (kont22 : am_M → Int32 → Int32 → Int32 → Option am_M) (σ : am_M) (l1 : Int32) (l3 : Int32) (s0 : Int32) (s1 : Int32) : Option am_M := kont22 σ l1 (s1 ||| s0) (l3 + 1)
set_option maxRecDepth 100000 in
set_option maxHeartbeats 4000000 in
theorem p_X8_showEnding_J83 {l : Launch} {Post : Option Value → am_W → Prop} {V : am_VT} (hV : am_B l RX8 false 3 (am_cdT' tX8_showEnding) (am_rfL rfX8) none Post 36 V) (n : Nat) (res : am_M) (hP : Post none (wX8 res)) (kont22 : am_M → Int32 → Int32 → Int32 → Option am_M) (hk22 : ∀ (σ : am_M) (l1 : Int32) (l2 : Int32) (l3 : Int32), kont22 σ l1 l2 l3 = some res → V (wX8 σ) 22 [(0, .ref 0), (1, .int l1), (2, .int l2), (3, .int l3)] []) (σ : am_M) (l1 : Int32) (l3 : Int32) (s0 : Int32) (s1 : Int32) (h : X8_showEnding_J83 n kont22 σ l1 l3 s0 s1 = some res) : V (wX8 σ) 83 [(0, .ref 0), (1, .int l1), (3, .int l3)] [.int s0, .int s1] := by
  unfold X8_showEnding_J83 at h
  refine hV.run 4 [] (ws' := wX8 σ) (pc' := 22) (ls' := [(3, .int (l3 + 1)), (2, .int (s1 ||| s0)), (0, .ref 0), (1, .int l1)]) (st' := []) (ps := []) rfl trivial ?_
  refine hV.pick [2, 3, 1, 0] (ls' := [(0, .ref 0), (1, .int l1), (2, .int (s1 ||| s0)), (3, .int (l3 + 1))]) rfl ?_
  exact hk22 σ l1 (s1 ||| s0) (l3 + 1) h
def X8_showEnding_J82 (n : Nat) (kont22 : am_M → Int32 → Int32 → Int32 → Option am_M) (σ : am_M) (l1 : Int32) (l3 : Int32) (s0 : Int32) : Option am_M := X8_showEnding_J83 n kont22 σ l1 l3 0 s0
set_option maxRecDepth 100000 in
set_option maxHeartbeats 4000000 in
theorem p_X8_showEnding_J82 {l : Launch} {Post : Option Value → am_W → Prop} {V : am_VT} (hV : am_B l RX8 false 3 (am_cdT' tX8_showEnding) (am_rfL rfX8) none Post 36 V) (n : Nat) (res : am_M) (hP : Post none (wX8 res)) (kont22 : am_M → Int32 → Int32 → Int32 → Option am_M) (hk22 : ∀ (σ : am_M) (l1 : Int32) (l2 : Int32) (l3 : Int32), kont22 σ l1 l2 l3 = some res → V (wX8 σ) 22 [(0, .ref 0), (1, .int l1), (2, .int l2), (3, .int l3)] []) (σ : am_M) (l1 : Int32) (l3 : Int32) (s0 : Int32) (h : X8_showEnding_J82 n kont22 σ l1 l3 s0 = some res) : V (wX8 σ) 82 [(0, .ref 0), (1, .int l1), (3, .int l3)] [.int s0] := by
  unfold X8_showEnding_J82 at h
  refine hV.run 1 [] (ws' := wX8 σ) (pc' := 83) (ls' := [(0, .ref 0), (1, .int l1), (3, .int l3)]) (st' := [.int 0, .int s0]) (ps := []) rfl trivial ?_
  exact p_X8_showEnding_J83 hV n res hP kont22 hk22 σ l1 l3 0 s0 h
def X8_showEnding_J56 (n : Nat) (kont22 : am_M → Int32 → Int32 → Int32 → Option am_M) (σ : am_M) (l1 : Int32) (l2 : Int32) (l3 : Int32) (s0 : Int32) (s1 : Int32) : Option am_M := if s1 < 0 ∨ 2211 ≤ s1.toNatClampNeg then none else (if (σ 0 3) ≤ l3 then (X8_showEnding_J82 n kont22 (sC σ 25 (upd (σ 25) s1.toNatClampNeg s0)) l1 l3 l2) else (X8_own (sC σ 25 (upd (σ 25) s1.toNatClampNeg s0)) l3 0).bind (fun q3 => if q3 = (-1) then (X8_showEnding_J82 n kont22 (sC σ 25 (upd (σ 25) s1.toNatClampNeg s0)) l1 l3 l2) else (X8_showEnding_J83 n kont22 (sC σ 25 (upd (σ 25) s1.toNatClampNeg s0)) l1 l3 (1 <<< (l3 &&& 31)) l2)))
set_option maxRecDepth 100000 in
set_option maxHeartbeats 4000000 in
theorem p_X8_showEnding_J56 {l : Launch} {Post : Option Value → am_W → Prop} {V : am_VT} (hV : am_B l RX8 false 3 (am_cdT' tX8_showEnding) (am_rfL rfX8) none Post 36 V) (n : Nat) (res : am_M) (hP : Post none (wX8 res)) (kont22 : am_M → Int32 → Int32 → Int32 → Option am_M) (hk22 : ∀ (σ : am_M) (l1 : Int32) (l2 : Int32) (l3 : Int32), kont22 σ l1 l2 l3 = some res → V (wX8 σ) 22 [(0, .ref 0), (1, .int l1), (2, .int l2), (3, .int l3)] []) (σ : am_M) (l1 : Int32) (l2 : Int32) (l3 : Int32) (s0 : Int32) (s1 : Int32) (h : X8_showEnding_J56 n kont22 σ l1 l2 l3 s0 s1 = some res) : V (wX8 σ) 56 [(0, .ref 0), (1, .int l1), (2, .int l2), (3, .int l3)] [.int s0, .int s1, .ref 25] := by
  unfold X8_showEnding_J56 at h
  by_cases g1 : s1 < 0 ∨ 2211 ≤ s1.toNatClampNeg
  · rw [if_pos g1] at h; cases h
  rw [if_neg g1] at h
  by_cases c2 : (σ 0 3) ≤ l3
  · rw [if_pos c2] at h
    refine hV.run 6 [1] (ws' := wX8 (sC σ 25 (upd (σ 25) s1.toNatClampNeg s0))) (pc' := 82) (ls' := [(0, .ref 0), (1, .int l1), (2, .int l2), (3, .int l3)]) (st' := [.int l2]) (ps := [vp_in s1 2211, (σ 0 3) ≤ l3]) rfl ⟨g1, c2, trivial⟩ ?_
    refine hV.pick [0, 1, 3] (ls' := [(0, .ref 0), (1, .int l1), (3, .int l3)]) rfl ?_
    exact p_X8_showEnding_J82 hV n res hP kont22 hk22 (sC σ 25 (upd (σ 25) s1.toNatClampNeg s0)) l1 l3 l2 h
  · rw [if_neg c2] at h
    refine hV.run 9 [0] (ws' := wX8 (sC σ 25 (upd (σ 25) s1.toNatClampNeg s0))) (pc' := 69) (ls' := [(0, .ref 0), (1, .int l1), (2, .int l2), (3, .int l3)]) (st' := [.int 0, .int l3, .ref 0, .int l2]) (ps := [vp_in s1 2211, ¬ (σ 0 3) ≤ l3]) rfl ⟨g1, c2, trivial⟩ ?_
    obtain ⟨q3, hq3, h⟩ := am_bind h
    refine hV.cOi (as := [.int l3, .int 0]) (rest := [.int l2]) (st := [.int 0, .int l3, .ref 0, .int l2]) (ws2 := wX8 (sC σ 25 (upd (σ 25) s1.toNatClampNeg s0))) (pc2 := 72) kX8_337 (c_X8_own l (sC σ 25 (upd (σ 25) s1.toNatClampNeg s0)) l3 0 q3 hq3) rfl rfl rfl rfl rfl rfl rfl rfl rfl ?_
    by_cases c4 : q3 = (-1)
    · rw [if_pos c4] at h
      refine hV.run 2 [1] (ws' := wX8 (sC σ 25 (upd (σ 25) s1.toNatClampNeg s0))) (pc' := 82) (ls' := [(0, .ref 0), (1, .int l1), (2, .int l2), (3, .int l3)]) (st' := [.int l2]) (ps := [q3 = (-1)]) rfl ⟨c4, trivial⟩ ?_
      refine hV.pick [0, 1, 3] (ls' := [(0, .ref 0), (1, .int l1), (3, .int l3)]) rfl ?_
      exact p_X8_showEnding_J82 hV n res hP kont22 hk22 (sC σ 25 (upd (σ 25) s1.toNatClampNeg s0)) l1 l3 l2 h
    · rw [if_neg c4] at h
      refine hV.run 6 [0] (ws' := wX8 (sC σ 25 (upd (σ 25) s1.toNatClampNeg s0))) (pc' := 83) (ls' := [(0, .ref 0), (1, .int l1), (2, .int l2), (3, .int l3)]) (st' := [.int (1 <<< (l3 &&& 31)), .int l2]) (ps := [¬ q3 = (-1)]) rfl ⟨c4, trivial⟩ ?_
      refine hV.pick [0, 1, 3] (ls' := [(0, .ref 0), (1, .int l1), (3, .int l3)]) rfl ?_
      exact p_X8_showEnding_J83 hV n res hP kont22 hk22 (sC σ 25 (upd (σ 25) s1.toNatClampNeg s0)) l1 l3 (1 <<< (l3 &&& 31)) l2 h
def X8_showEnding_B22 (n : Nat) (kont22 : am_M → Int32 → Int32 → Int32 → Option am_M) (σ : am_M) (l1 : Int32) (l2 : Int32) (l3 : Int32) : Option am_M := if 8 ≤ l3 then (if (l1 + 9) < 0 ∨ 2211 ≤ (l1 + 9).toNatClampNeg then none else (if (l1 + 10) < 0 ∨ 2211 ≤ (l1 + 10).toNatClampNeg then none else (X8_showEnding_L119 n n (sC σ 25 (upd (upd (σ 25) (l1 + 9).toNatClampNeg (X8_words σ)) (l1 + 10).toNatClampNeg l2)) (σ 0 51)))) else (if (σ 0 3) ≤ l3 then (X8_showEnding_J56 n kont22 σ l1 l2 l3 0 ((l1 + 1) + l3)) else (X8_own σ l3 7).bind (fun q5 => X8_showEnding_J56 n kont22 σ l1 l2 l3 q5 ((l1 + 1) + l3)))
def X8_showEnding_L22 (n : Nat) : Nat → am_M → Int32 → Int32 → Int32 → Option am_M
 | 0 => fun _ _ _ _ => none
 | k + 1 => fun σ l1 l2 l3 => X8_showEnding_B22 n (X8_showEnding_L22 n k) σ l1 l2 l3
set_option maxRecDepth 100000 in
set_option maxHeartbeats 4000000 in
theorem p_X8_showEnding_B22 {l : Launch} {Post : Option Value → am_W → Prop} {V : am_VT} (hV : am_B l RX8 false 3 (am_cdT' tX8_showEnding) (am_rfL rfX8) none Post 36 V) (n : Nat) (res : am_M) (hP : Post none (wX8 res)) (kont22 : am_M → Int32 → Int32 → Int32 → Option am_M) (hk22 : ∀ (σ : am_M) (l1 : Int32) (l2 : Int32) (l3 : Int32), kont22 σ l1 l2 l3 = some res → V (wX8 σ) 22 [(0, .ref 0), (1, .int l1), (2, .int l2), (3, .int l3)] []) (σ : am_M) (l1 : Int32) (l2 : Int32) (l3 : Int32) (h : X8_showEnding_B22 n kont22 σ l1 l2 l3 = some res) : V (wX8 σ) 22 [(0, .ref 0), (1, .int l1), (2, .int l2), (3, .int l3)] [] := by
  unfold X8_showEnding_B22 at h
  by_cases c1 : 8 ≤ l3
  · rw [if_pos c1] at h
    refine hV.run 9 [1] (ws' := wX8 σ) (pc' := 100) (ls' := [(0, .ref 0), (1, .int l1), (2, .int l2), (3, .int l3)]) (st' := [.ref 0, .int (l1 + 9), .ref 25]) (ps := [8 ≤ l3]) rfl ⟨c1, trivial⟩ ?_
    refine hV.cOi (as := []) (rest := [.int (l1 + 9), .ref 25]) (st := [.ref 0, .int (l1 + 9), .ref 25]) (ws2 := wX8 σ) (pc2 := 103) kX8_363 (c_X8_words l σ) rfl rfl rfl rfl rfl rfl rfl rfl rfl ?_
    by_cases g2 : (l1 + 9) < 0 ∨ 2211 ≤ (l1 + 9).toNatClampNeg
    · rw [if_pos g2] at h; cases h
    rw [if_neg g2] at h
    by_cases g3 : (l1 + 10) < 0 ∨ 2211 ≤ (l1 + 10).toNatClampNeg
    · rw [if_pos g3] at h; cases h
    rw [if_neg g3] at h
    refine hV.run 11 [] (ws' := wX8 (sC σ 25 (upd (upd (σ 25) (l1 + 9).toNatClampNeg (X8_words σ)) (l1 + 10).toNatClampNeg l2))) (pc' := 119) (ls' := [(3, .int (σ 0 51)), (0, .ref 0), (1, .int l1), (2, .int l2)]) (st' := []) (ps := [vp_in (l1 + 9) 2211, vp_in (l1 + 10) 2211]) rfl ⟨g2, g3, trivial⟩ ?_
    refine hV.pick [1, 0] (ls' := [(0, .ref 0), (3, .int (σ 0 51))]) rfl ?_
    exact p_X8_showEnding_L119 hV n res hP n (sC σ 25 (upd (upd (σ 25) (l1 + 9).toNatClampNeg (X8_words σ)) (l1 + 10).toNatClampNeg l2)) (σ 0 51) h
  · rw [if_neg c1] at h
    by_cases c4 : (σ 0 3) ≤ l3
    · rw [if_pos c4] at h
      refine hV.run 15 [0, 1] (ws' := wX8 σ) (pc' := 56) (ls' := [(0, .ref 0), (1, .int l1), (2, .int l2), (3, .int l3)]) (st' := [.int 0, .int ((l1 + 1) + l3), .ref 25]) (ps := [¬ 8 ≤ l3, (σ 0 3) ≤ l3]) rfl ⟨c1, c4, trivial⟩ ?_
      exact p_X8_showEnding_J56 hV n res hP kont22 hk22 σ l1 l2 l3 0 ((l1 + 1) + l3) h
    · rw [if_neg c4] at h
      refine hV.run 17 [0, 0] (ws' := wX8 σ) (pc' := 49) (ls' := [(0, .ref 0), (1, .int l1), (2, .int l2), (3, .int l3)]) (st' := [.int 7, .int l3, .ref 0, .int ((l1 + 1) + l3), .ref 25]) (ps := [¬ 8 ≤ l3, ¬ (σ 0 3) ≤ l3]) rfl ⟨c1, c4, trivial⟩ ?_
      obtain ⟨q5, hq5, h⟩ := am_bind h
      refine hV.cOi (as := [.int l3, .int 7]) (rest := [.int ((l1 + 1) + l3), .ref 25]) (st := [.int 7, .int l3, .ref 0, .int ((l1 + 1) + l3), .ref 25]) (ws2 := wX8 σ) (pc2 := 52) kX8_337 (c_X8_own l σ l3 7 q5 hq5) rfl rfl rfl rfl rfl rfl rfl rfl rfl ?_
      refine hV.run 1 [] (ws' := wX8 σ) (pc' := 56) (ls' := [(0, .ref 0), (1, .int l1), (2, .int l2), (3, .int l3)]) (st' := [.int q5, .int ((l1 + 1) + l3), .ref 25]) (ps := []) rfl trivial ?_
      exact p_X8_showEnding_J56 hV n res hP kont22 hk22 σ l1 l2 l3 q5 ((l1 + 1) + l3) h
theorem p_X8_showEnding_L22 {l : Launch} {Post : Option Value → am_W → Prop} {V : am_VT} (hV : am_B l RX8 false 3 (am_cdT' tX8_showEnding) (am_rfL rfX8) none Post 36 V) (n : Nat) (res : am_M) (hP : Post none (wX8 res)) : ∀ (k : Nat) (σ : am_M) (l1 : Int32) (l2 : Int32) (l3 : Int32) (h : X8_showEnding_L22 n k σ l1 l2 l3 = some res), V (wX8 σ) 22 [(0, .ref 0), (1, .int l1), (2, .int l2), (3, .int l3)] [] := by
  intro k
  induction k with
  | zero => intro σ l1 l2 l3 h; cases h
  | succ k ih => intro σ l1 l2 l3 h; exact p_X8_showEnding_B22 hV n res hP _ ih σ l1 l2 l3 h
def X8_showEnding (n : Nat) (σ : am_M) : Option am_M := (X8_kindNow n σ).bind (fun q1 => if (11 * (σ 0 51)) < 0 ∨ 2211 ≤ (11 * (σ 0 51)).toNatClampNeg then none else (X8_showEnding_L22 n n (sC σ 25 (upd (σ 25) (11 * (σ 0 51)).toNatClampNeg q1)) (11 * (σ 0 51)) 0 0))
set_option maxRecDepth 100000 in
set_option maxHeartbeats 4000000 in
theorem c_X8_showEnding (l : Launch) (n : Nat) (σ : am_M) (res : am_M) (h : X8_showEnding n σ = some res) : am_Con l yX8_showEnding cX8_showEnding 6 none 3 [.ref 0] (wX8 σ) (fun (r : Option Value) (w : am_W) => r = none ∧ w = (wX8 res)) := by
  refine am_metn (n0 := 36) (own := RX8) (cd := am_cdT' tX8_showEnding) (rf := am_rfL rfX8) (ini := false) rfl (by decide +kernel) rfl (by decide) dX8_showEnding rfX8_ok (Nat.le_of_ble_eq_true rfl) ?_
  intro V hV
  have hP : (fun (r : Option Value) (w : am_W) => r = none ∧ w = (wX8 res)) none (wX8 res) := ⟨rfl, rfl⟩
  show V (wX8 σ) 0 [(0, .ref 0)] []
  unfold X8_showEnding at h
  refine hV.run 9 [] (ws' := wX8 σ) (pc' := 14) (ls' := [(1, .int (11 * (σ 0 51))), (0, .ref 0)]) (st' := [.ref 0, .int (11 * (σ 0 51)), .ref 25]) (ps := []) rfl trivial ?_
  obtain ⟨q1, hq1, h⟩ := am_bind h
  refine hV.cOi (as := []) (rest := [.int (11 * (σ 0 51)), .ref 25]) (st := [.ref 0, .int (11 * (σ 0 51)), .ref 25]) (ws2 := wX8 σ) (pc2 := 17) kX8_460 (c_X8_kindNow l n σ q1 hq1) rfl rfl rfl rfl rfl rfl rfl rfl rfl ?_
  by_cases g2 : (11 * (σ 0 51)) < 0 ∨ 2211 ≤ (11 * (σ 0 51)).toNatClampNeg
  · rw [if_pos g2] at h; cases h
  rw [if_neg g2] at h
  refine hV.run 5 [] (ws' := wX8 (sC σ 25 (upd (σ 25) (11 * (σ 0 51)).toNatClampNeg q1))) (pc' := 22) (ls' := [(3, .int 0), (2, .int 0), (1, .int (11 * (σ 0 51))), (0, .ref 0)]) (st' := []) (ps := [vp_in (11 * (σ 0 51)) 2211]) rfl ⟨g2, trivial⟩ ?_
  refine hV.pick [3, 2, 1, 0] (ls' := [(0, .ref 0), (1, .int (11 * (σ 0 51))), (2, .int 0), (3, .int 0)]) rfl ?_
  exact p_X8_showEnding_L22 hV n res hP n (sC σ 25 (upd (σ 25) (11 * (σ 0 51)).toNatClampNeg q1)) (11 * (σ 0 51)) 0 0 h

def X8_tell_J116 (n : Nat) (σ : am_M) : Option (Bool × am_M) := if (σ 0 52) = 0 then (some (true, σ)) else (some (false, σ))
set_option maxRecDepth 100000 in
set_option maxHeartbeats 4000000 in
theorem p_X8_tell_J116 {l : Launch} {Post : Option Value → am_W → Prop} {V : am_VT} (hV : am_B l RX8 false 12 (am_cdT' tX8_tell) (am_rfL rfX8) (some .boolean) Post 36 V) (n : Nat) (res : (Bool × am_M)) (hP : Post (some (.int (b2i res.1))) (wX8 res.2)) (σ : am_M) (h : X8_tell_J116 n σ = some res) : V (wX8 σ) 116 [(0, .ref 0)] [] := by
  unfold X8_tell_J116 at h
  by_cases c1 : (σ 0 52) = 0
  · rw [if_pos c1] at h
    refine hV.run 5 [0] (ws' := wX8 σ) (pc' := 128) (ls' := [(0, .ref 0)]) (st' := [.int 1]) (ps := [(σ 0 52) = 0]) rfl ⟨c1, trivial⟩ ?_
    cases h
    exact hV.rz rfl rfl rfl (Or.inr rfl) hP
  · rw [if_neg c1] at h
    refine hV.run 4 [1] (ws' := wX8 σ) (pc' := 128) (ls' := [(0, .ref 0)]) (st' := [.int 0]) (ps := [¬ (σ 0 52) = 0]) rfl ⟨c1, trivial⟩ ?_
    cases h
    exact hV.rz rfl rfl rfl (Or.inl rfl) hP
def X8_tell_B91 (n : Nat) (kont91 : am_M → Int32 → Option (Bool × am_M)) (σ : am_M) (l1 : Int32) : Option (Bool × am_M) := if 320 ≤ l1 then (X8_tell_J116 n σ) else (if l1 < 0 ∨ 320 ≤ l1.toNatClampNeg then none else (if l1 < 0 ∨ 320 ≤ l1.toNatClampNeg then none else (kont91 (sC σ 26 (upd (σ 26) l1.toNatClampNeg (σ 24 l1.toNatClampNeg))) (l1 + 1))))
def X8_tell_L91 (n : Nat) : Nat → am_M → Int32 → Option (Bool × am_M)
 | 0 => fun _ _ => none
 | k + 1 => fun σ l1 => X8_tell_B91 n (X8_tell_L91 n k) σ l1
set_option maxRecDepth 100000 in
set_option maxHeartbeats 4000000 in
theorem p_X8_tell_B91 {l : Launch} {Post : Option Value → am_W → Prop} {V : am_VT} (hV : am_B l RX8 false 12 (am_cdT' tX8_tell) (am_rfL rfX8) (some .boolean) Post 36 V) (n : Nat) (res : (Bool × am_M)) (hP : Post (some (.int (b2i res.1))) (wX8 res.2)) (kont91 : am_M → Int32 → Option (Bool × am_M)) (hk91 : ∀ (σ : am_M) (l1 : Int32), kont91 σ l1 = some res → V (wX8 σ) 91 [(0, .ref 0), (1, .int l1)] []) (σ : am_M) (l1 : Int32) (h : X8_tell_B91 n kont91 σ l1 = some res) : V (wX8 σ) 91 [(0, .ref 0), (1, .int l1)] [] := by
  unfold X8_tell_B91 at h
  by_cases c1 : 320 ≤ l1
  · rw [if_pos c1] at h
    refine hV.run 3 [1] (ws' := wX8 σ) (pc' := 116) (ls' := [(0, .ref 0), (1, .int l1)]) (st' := []) (ps := [320 ≤ l1]) rfl ⟨c1, trivial⟩ ?_
    refine hV.pick [0] (ls' := [(0, .ref 0)]) rfl ?_
    exact p_X8_tell_J116 hV n res hP σ h
  · rw [if_neg c1] at h
    by_cases g2 : l1 < 0 ∨ 320 ≤ l1.toNatClampNeg
    · rw [if_pos g2] at h; cases h
    rw [if_neg g2] at h
    by_cases g3 : l1 < 0 ∨ 320 ≤ l1.toNatClampNeg
    · rw [if_pos g3] at h; cases h
    rw [if_neg g3] at h
    refine hV.run 13 [0] (ws' := wX8 (sC σ 26 (upd (σ 26) l1.toNatClampNeg (σ 24 l1.toNatClampNeg)))) (pc' := 91) (ls' := [(1, .int (l1 + 1)), (0, .ref 0)]) (st' := []) (ps := [¬ 320 ≤ l1, vp_in l1 320, vp_in l1 320]) rfl ⟨c1, g2, g3, trivial⟩ ?_
    refine hV.pick [1, 0] (ls' := [(0, .ref 0), (1, .int (l1 + 1))]) rfl ?_
    exact hk91 (sC σ 26 (upd (σ 26) l1.toNatClampNeg (σ 24 l1.toNatClampNeg))) (l1 + 1) h
theorem p_X8_tell_L91 {l : Launch} {Post : Option Value → am_W → Prop} {V : am_VT} (hV : am_B l RX8 false 12 (am_cdT' tX8_tell) (am_rfL rfX8) (some .boolean) Post 36 V) (n : Nat) (res : (Bool × am_M)) (hP : Post (some (.int (b2i res.1))) (wX8 res.2)) : ∀ (k : Nat) (σ : am_M) (l1 : Int32) (h : X8_tell_L91 n k σ l1 = some res), V (wX8 σ) 91 [(0, .ref 0), (1, .int l1)] [] := by
  intro k
  induction k with
  | zero => intro σ l1 h; cases h
  | succ k ih => intro σ l1 h; exact p_X8_tell_B91 hV n res hP _ ih σ l1 h
def X8_tell_J73 (n : Nat) (σ : am_M) : Option (Bool × am_M) := if ¬ ((σ 0 48) = 0 ∨ (σ 0 48) = 1) then none else (X8_tell_L91 n n (sC σ 0 (am_u (am_u (σ 0) 52 (σ 0 48)) 53 (σ 0 46))) 0)
set_option maxRecDepth 100000 in
set_option maxHeartbeats 4000000 in
theorem p_X8_tell_J73 {l : Launch} {Post : Option Value → am_W → Prop} {V : am_VT} (hV : am_B l RX8 false 12 (am_cdT' tX8_tell) (am_rfL rfX8) (some .boolean) Post 36 V) (n : Nat) (res : (Bool × am_M)) (hP : Post (some (.int (b2i res.1))) (wX8 res.2)) (σ : am_M) (h : X8_tell_J73 n σ = some res) : V (wX8 σ) 73 [(0, .ref 0)] [] := by
  unfold X8_tell_J73 at h
  by_cases g1 : ¬ ((σ 0 48) = 0 ∨ (σ 0 48) = 1)
  · rw [if_pos g1] at h; cases h
  rw [if_neg g1] at h
  refine hV.run 10 [] (ws' := wX8 (sC σ 0 (am_u (am_u (σ 0) 52 (σ 0 48)) 53 (σ 0 46)))) (pc' := 91) (ls' := [(1, .int 0), (0, .ref 0)]) (st' := []) (ps := [(σ 0 48) = 0 ∨ (σ 0 48) = 1]) rfl ⟨(Classical.not_not.mp g1), trivial⟩ ?_
  refine hV.pick [1, 0] (ls' := [(0, .ref 0), (1, .int 0)]) rfl ?_
  exact p_X8_tell_L91 hV n res hP n (sC σ 0 (am_u (am_u (σ 0) 52 (σ 0 48)) 53 (σ 0 46))) 0 h
def X8_tell_J67 (n : Nat) (kont31 : am_M → Int32 → Option (Bool × am_M)) (σ : am_M) (l1 : Int32) : Option (Bool × am_M) := kont31 σ (l1 + 1)
set_option maxRecDepth 100000 in
set_option maxHeartbeats 4000000 in
theorem p_X8_tell_J67 {l : Launch} {Post : Option Value → am_W → Prop} {V : am_VT} (hV : am_B l RX8 false 12 (am_cdT' tX8_tell) (am_rfL rfX8) (some .boolean) Post 36 V) (n : Nat) (res : (Bool × am_M)) (hP : Post (some (.int (b2i res.1))) (wX8 res.2)) (kont31 : am_M → Int32 → Option (Bool × am_M)) (hk31 : ∀ (σ : am_M) (l1 : Int32), kont31 σ l1 = some res → V (wX8 σ) 31 [(0, .ref 0), (1, .int l1)] []) (σ : am_M) (l1 : Int32) (h : X8_tell_J67 n kont31 σ l1 = some res) : V (wX8 σ) 67 [(0, .ref 0), (1, .int l1)] [] := by
  unfold X8_tell_J67 at h
  refine hV.run 2 [] (ws' := wX8 σ) (pc' := 31) (ls' := [(1, .int (l1 + 1)), (0, .ref 0)]) (st' := []) (ps := []) rfl trivial ?_
  refine hV.pick [1, 0] (ls' := [(0, .ref 0), (1, .int (l1 + 1))]) rfl ?_
  exact hk31 σ (l1 + 1) h
def X8_tell_B31 (n : Nat) (kont31 : am_M → Int32 → Option (Bool × am_M)) (σ : am_M) (l1 : Int32) : Option (Bool × am_M) := if (σ 0 46) ≤ l1 then (X8_tell_J73 n σ) else (if (σ 0 48) = 0 then (if l1 < 0 ∨ 201 ≤ l1.toNatClampNeg then none else (if (σ 23 l1.toNatClampNeg) = 0 then (X8_tell_J67 n kont31 σ l1) else (X8_bring n σ l1).bind (fun q5 => (X8_showEnding n q5).bind (fun q6 => X8_tell_J67 n kont31 q6 l1)))) else (X8_tell_J73 n σ))
def X8_tell_L31 (n : Nat) : Nat → am_M → Int32 → Option (Bool × am_M)
 | 0 => fun _ _ => none
 | k + 1 => fun σ l1 => X8_tell_B31 n (X8_tell_L31 n k) σ l1
set_option maxRecDepth 100000 in
set_option maxHeartbeats 4000000 in
theorem p_X8_tell_B31 {l : Launch} {Post : Option Value → am_W → Prop} {V : am_VT} (hV : am_B l RX8 false 12 (am_cdT' tX8_tell) (am_rfL rfX8) (some .boolean) Post 36 V) (n : Nat) (res : (Bool × am_M)) (hP : Post (some (.int (b2i res.1))) (wX8 res.2)) (kont31 : am_M → Int32 → Option (Bool × am_M)) (hk31 : ∀ (σ : am_M) (l1 : Int32), kont31 σ l1 = some res → V (wX8 σ) 31 [(0, .ref 0), (1, .int l1)] []) (σ : am_M) (l1 : Int32) (h : X8_tell_B31 n kont31 σ l1 = some res) : V (wX8 σ) 31 [(0, .ref 0), (1, .int l1)] [] := by
  unfold X8_tell_B31 at h
  by_cases c1 : (σ 0 46) ≤ l1
  · rw [if_pos c1] at h
    refine hV.run 4 [1] (ws' := wX8 σ) (pc' := 73) (ls' := [(0, .ref 0), (1, .int l1)]) (st' := []) (ps := [(σ 0 46) ≤ l1]) rfl ⟨c1, trivial⟩ ?_
    refine hV.pick [0] (ls' := [(0, .ref 0)]) rfl ?_
    exact p_X8_tell_J73 hV n res hP σ h
  · rw [if_neg c1] at h
    by_cases c2 : (σ 0 48) = 0
    · rw [if_pos c2] at h
      by_cases g3 : l1 < 0 ∨ 201 ≤ l1.toNatClampNeg
      · rw [if_pos g3] at h; cases h
      rw [if_neg g3] at h
      by_cases c4 : (σ 23 l1.toNatClampNeg) = 0
      · rw [if_pos c4] at h
        refine hV.run 13 [0, 0, 0] (ws' := wX8 σ) (pc' := 67) (ls' := [(0, .ref 0), (1, .int l1)]) (st' := []) (ps := [¬ (σ 0 46) ≤ l1, (σ 0 48) = 0, vp_in l1 201, (σ 23 l1.toNatClampNeg) = 0]) rfl ⟨c1, c2, g3, c4, trivial⟩ ?_
        exact p_X8_tell_J67 hV n res hP kont31 hk31 σ l1 h
      · rw [if_neg c4] at h
        refine hV.run 14 [0, 0, 1] (ws' := wX8 σ) (pc' := 60) (ls' := [(0, .ref 0), (1, .int l1)]) (st' := [.int l1, .ref 0]) (ps := [¬ (σ 0 46) ≤ l1, (σ 0 48) = 0, vp_in l1 201, ¬ (σ 23 l1.toNatClampNeg) = 0]) rfl ⟨c1, c2, g3, c4, trivial⟩ ?_
        obtain ⟨q5, hq5, h⟩ := am_bind h
        refine hV.cOv (as := [.int l1]) (rest := []) (st := [.int l1, .ref 0]) (ws2 := wX8 q5) (pc2 := 63) kX8_444 (c_X8_bring l n σ l1 q5 hq5) rfl rfl rfl rfl rfl rfl rfl rfl rfl ?_
        refine hV.run 1 [] (ws' := wX8 q5) (pc' := 64) (ls' := [(0, .ref 0), (1, .int l1)]) (st' := [.ref 0]) (ps := []) rfl trivial ?_
        obtain ⟨q6, hq6, h⟩ := am_bind h
        refine hV.cOv (as := []) (rest := []) (st := [.ref 0]) (ws2 := wX8 q6) (pc2 := 67) kX8_474 (c_X8_showEnding l n q5 q6 hq6) rfl rfl rfl rfl rfl rfl rfl rfl rfl ?_
        exact p_X8_tell_J67 hV n res hP kont31 hk31 q6 l1 h
    · rw [if_neg c2] at h
      refine hV.run 7 [0, 1] (ws' := wX8 σ) (pc' := 73) (ls' := [(0, .ref 0), (1, .int l1)]) (st' := []) (ps := [¬ (σ 0 46) ≤ l1, ¬ (σ 0 48) = 0]) rfl ⟨c1, c2, trivial⟩ ?_
      refine hV.pick [0] (ls' := [(0, .ref 0)]) rfl ?_
      exact p_X8_tell_J73 hV n res hP σ h
theorem p_X8_tell_L31 {l : Launch} {Post : Option Value → am_W → Prop} {V : am_VT} (hV : am_B l RX8 false 12 (am_cdT' tX8_tell) (am_rfL rfX8) (some .boolean) Post 36 V) (n : Nat) (res : (Bool × am_M)) (hP : Post (some (.int (b2i res.1))) (wX8 res.2)) : ∀ (k : Nat) (σ : am_M) (l1 : Int32) (h : X8_tell_L31 n k σ l1 = some res), V (wX8 σ) 31 [(0, .ref 0), (1, .int l1)] [] := by
  intro k
  induction k with
  | zero => intro σ l1 h; cases h
  | succ k ih => intro σ l1 h; exact p_X8_tell_B31 hV n res hP _ ih σ l1 h
def X8_tell (n : Nat) (σ : am_M) : Option (Bool × am_M) := if (σ 0 47) = (σ 0 7) then (X8_tell_J116 n σ) else (X8_go n (sC σ 0 (am_u (σ 0) 47 (σ 0 7)))).bind (fun q2 => X8_tell_L31 n n (sC q2.2 0 (am_u (q2.2 0) 51 0)) 0)
set_option maxRecDepth 100000 in
set_option maxHeartbeats 4000000 in
theorem c_X8_tell (l : Launch) (n : Nat) (σ : am_M) (res : (Bool × am_M)) (h : X8_tell n σ = some res) : am_Con l yX8_tell cX8_tell 2 (some .boolean) 12 [.ref 0] (wX8 σ) (fun (r : Option Value) (w : am_W) => r = (some (.int (b2i res.1))) ∧ w = (wX8 res.2)) := by
  refine am_metn (n0 := 36) (own := RX8) (cd := am_cdT' tX8_tell) (rf := am_rfL rfX8) (ini := false) rfl (by decide +kernel) rfl (by decide) dX8_tell rfX8_ok (Nat.le_of_ble_eq_true rfl) ?_
  intro V hV
  have hP : (fun (r : Option Value) (w : am_W) => r = (some (.int (b2i res.1))) ∧ w = (wX8 res.2)) (some (.int (b2i res.1))) (wX8 res.2) := ⟨rfl, rfl⟩
  show V (wX8 σ) 0 [(0, .ref 0)] []
  unfold X8_tell at h
  by_cases c1 : (σ 0 47) = (σ 0 7)
  · rw [if_pos c1] at h
    refine hV.run 5 [1] (ws' := wX8 σ) (pc' := 116) (ls' := [(0, .ref 0)]) (st' := []) (ps := [(σ 0 47) = (σ 0 7)]) rfl ⟨c1, trivial⟩ ?_
    exact p_X8_tell_J116 hV n res hP σ h
  · rw [if_neg c1] at h
    refine hV.run 10 [0] (ws' := wX8 (sC σ 0 (am_u (σ 0) 47 (σ 0 7)))) (pc' := 20) (ls' := [(0, .ref 0)]) (st' := [.ref 0]) (ps := [¬ (σ 0 47) = (σ 0 7)]) rfl ⟨c1, trivial⟩ ?_
    obtain ⟨q2, hq2, h⟩ := am_bind h
    refine hV.cOi (as := []) (rest := []) (st := [.ref 0]) (ws2 := wX8 q2.2) (pc2 := 23) kX8_470 (c_X8_go l n (sC σ 0 (am_u (σ 0) 47 (σ 0 7))) q2 hq2) rfl rfl rfl rfl rfl rfl rfl rfl rfl ?_
    refine hV.run 6 [] (ws' := wX8 (sC q2.2 0 (am_u (q2.2 0) 51 0))) (pc' := 31) (ls' := [(1, .int 0), (0, .ref 0)]) (st' := []) (ps := []) rfl trivial ?_
    refine hV.pick [1, 0] (ls' := [(0, .ref 0), (1, .int 0)]) rfl ?_
    exact p_X8_tell_L31 hV n res hP n (sC q2.2 0 (am_u (q2.2 0) 51 0)) 0 h

def X8_reached (n : Nat) (σ : am_M) : Option (Int32 × am_M) := (X8_tell n (sC σ 0 (am_u (σ 0) 2 0))).bind (fun q1 => if q1.1 = true then (some ((q1.2 0 53), q1.2)) else (some ((-1), q1.2)))
set_option maxRecDepth 100000 in
set_option maxHeartbeats 4000000 in
theorem c_X8_reached (l : Launch) (n : Nat) (σ : am_M) (res : (Int32 × am_M)) (h : X8_reached n σ = some res) : am_Con l yX8_reached cX8_reached 1 (some .int) 13 [.ref 0] (wX8 σ) (fun (r : Option Value) (w : am_W) => r = (some (.int res.1)) ∧ w = (wX8 res.2)) := by
  refine am_metn (n0 := 36) (own := RX8) (cd := am_cdT' tX8_reached) (rf := am_rfL rfX8) (ini := false) rfl (by decide +kernel) rfl (by decide) dX8_reached rfX8_ok (Nat.le_of_ble_eq_true rfl) ?_
  intro V hV
  have hP : (fun (r : Option Value) (w : am_W) => r = (some (.int res.1)) ∧ w = (wX8 res.2)) (some (.int res.1)) (wX8 res.2) := ⟨rfl, rfl⟩
  show V (wX8 σ) 0 [(0, .ref 0)] []
  unfold X8_reached at h
  refine hV.run 4 [] (ws' := wX8 (sC σ 0 (am_u (σ 0) 2 0))) (pc' := 6) (ls' := [(0, .ref 0)]) (st' := [.ref 0]) (ps := []) rfl trivial ?_
  obtain ⟨q1, hq1, h⟩ := am_bind h
  refine hV.cOi (as := []) (rest := []) (st := [.ref 0]) (ws2 := wX8 q1.2) (pc2 := 9) kX8_483 (c_X8_tell l n (sC σ 0 (am_u (σ 0) 2 0)) q1 hq1) rfl rfl rfl rfl rfl rfl rfl rfl rfl ?_
  by_cases c2 : q1.1 = true
  · rw [if_pos c2] at h
    refine hV.run 4 [0] (ws' := wX8 q1.2) (pc' := 20) (ls' := [(0, .ref 0)]) (st' := [.int (q1.2 0 53)]) (ps := [¬ (b2i q1.1) = 0]) rfl ⟨(b2i_t c2), trivial⟩ ?_
    cases h
    exact hV.ri rfl rfl rfl hP
  · rw [if_neg c2] at h
    refine hV.run 2 [1] (ws' := wX8 q1.2) (pc' := 20) (ls' := [(0, .ref 0)]) (st' := [.int (-1)]) (ps := [(b2i q1.1) = 0]) rfl ⟨(b2i_f c2), trivial⟩ ?_
    cases h
    exact hV.ri rfl rfl rfl hP

def X8_endings_J66 (n : Nat) (kont34 : am_M → Int32 → Int32 → Int32 → Option (Int32 × am_M)) (σ : am_M) (l1 : Int32) (l3 : Int32) (s0 : Int32) (s1 : Int32) : Option (Int32 × am_M) := kont34 σ l1 (s1 + s0) (l3 + 1)
set_option maxRecDepth 100000 in
set_option maxHeartbeats 4000000 in
theorem p_X8_endings_J66 {l : Launch} {Post : Option Value → am_W → Prop} {V : am_VT} (hV : am_B l RX8 false 13 (am_cdT' tX8_endings) (am_rfL rfX8) (some .int) Post 36 V) (n : Nat) (res : (Int32 × am_M)) (hP : Post (some (.int res.1)) (wX8 res.2)) (kont34 : am_M → Int32 → Int32 → Int32 → Option (Int32 × am_M)) (hk34 : ∀ (σ : am_M) (l1 : Int32) (l2 : Int32) (l3 : Int32), kont34 σ l1 l2 l3 = some res → V (wX8 σ) 34 [(0, .ref 0), (1, .int l1), (2, .int l2), (3, .int l3)] []) (σ : am_M) (l1 : Int32) (l3 : Int32) (s0 : Int32) (s1 : Int32) (h : X8_endings_J66 n kont34 σ l1 l3 s0 s1 = some res) : V (wX8 σ) 66 [(0, .ref 0), (1, .int l1), (3, .int l3)] [.int s0, .int s1] := by
  unfold X8_endings_J66 at h
  refine hV.run 4 [] (ws' := wX8 σ) (pc' := 34) (ls' := [(3, .int (l3 + 1)), (2, .int (s1 + s0)), (0, .ref 0), (1, .int l1)]) (st' := []) (ps := []) rfl trivial ?_
  refine hV.pick [2, 3, 1, 0] (ls' := [(0, .ref 0), (1, .int l1), (2, .int (s1 + s0)), (3, .int (l3 + 1))]) rfl ?_
  exact hk34 σ l1 (s1 + s0) (l3 + 1) h
def X8_endings_J61 (n : Nat) (kont34 : am_M → Int32 → Int32 → Int32 → Option (Int32 × am_M)) (σ : am_M) (l1 : Int32) (l3 : Int32) (s0 : Int32) : Option (Int32 × am_M) := X8_endings_J66 n kont34 σ l1 l3 1 s0
set_option maxRecDepth 100000 in
set_option maxHeartbeats 4000000 in
theorem p_X8_endings_J61 {l : Launch} {Post : Option Value → am_W → Prop} {V : am_VT} (hV : am_B l RX8 false 13 (am_cdT' tX8_endings) (am_rfL rfX8) (some .int) Post 36 V) (n : Nat) (res : (Int32 × am_M)) (hP : Post (some (.int res.1)) (wX8 res.2)) (kont34 : am_M → Int32 → Int32 → Int32 → Option (Int32 × am_M)) (hk34 : ∀ (σ : am_M) (l1 : Int32) (l2 : Int32) (l3 : Int32), kont34 σ l1 l2 l3 = some res → V (wX8 σ) 34 [(0, .ref 0), (1, .int l1), (2, .int l2), (3, .int l3)] []) (σ : am_M) (l1 : Int32) (l3 : Int32) (s0 : Int32) (h : X8_endings_J61 n kont34 σ l1 l3 s0 = some res) : V (wX8 σ) 61 [(0, .ref 0), (1, .int l1), (3, .int l3)] [.int s0] := by
  unfold X8_endings_J61 at h
  refine hV.run 2 [] (ws' := wX8 σ) (pc' := 66) (ls' := [(0, .ref 0), (1, .int l1), (3, .int l3)]) (st' := [.int 1, .int s0]) (ps := []) rfl trivial ?_
  exact p_X8_endings_J66 hV n res hP kont34 hk34 σ l1 l3 1 s0 h
def X8_endings_B34 (n : Nat) (kont34 : am_M → Int32 → Int32 → Int32 → Option (Int32 × am_M)) (σ : am_M) (l1 : Int32) (l2 : Int32) (l3 : Int32) : Option (Int32 × am_M) := if (σ 0 51) ≤ l3 then (some (l2, σ)) else (if l1 = (-1) then (X8_endings_J61 n kont34 σ l1 l3 l2) else (if (11 * l3) < 0 ∨ 2211 ≤ (11 * l3).toNatClampNeg then none else (if (σ 25 (11 * l3).toNatClampNeg) = l1 then (X8_endings_J61 n kont34 σ l1 l3 l2) else (X8_endings_J66 n kont34 σ l1 l3 0 l2))))
def X8_endings_L34 (n : Nat) : Nat → am_M → Int32 → Int32 → Int32 → Option (Int32 × am_M)
 | 0 => fun _ _ _ _ => none
 | k + 1 => fun σ l1 l2 l3 => X8_endings_B34 n (X8_endings_L34 n k) σ l1 l2 l3
set_option maxRecDepth 100000 in
set_option maxHeartbeats 4000000 in
theorem p_X8_endings_B34 {l : Launch} {Post : Option Value → am_W → Prop} {V : am_VT} (hV : am_B l RX8 false 13 (am_cdT' tX8_endings) (am_rfL rfX8) (some .int) Post 36 V) (n : Nat) (res : (Int32 × am_M)) (hP : Post (some (.int res.1)) (wX8 res.2)) (kont34 : am_M → Int32 → Int32 → Int32 → Option (Int32 × am_M)) (hk34 : ∀ (σ : am_M) (l1 : Int32) (l2 : Int32) (l3 : Int32), kont34 σ l1 l2 l3 = some res → V (wX8 σ) 34 [(0, .ref 0), (1, .int l1), (2, .int l2), (3, .int l3)] []) (σ : am_M) (l1 : Int32) (l2 : Int32) (l3 : Int32) (h : X8_endings_B34 n kont34 σ l1 l2 l3 = some res) : V (wX8 σ) 34 [(0, .ref 0), (1, .int l1), (2, .int l2), (3, .int l3)] [] := by
  unfold X8_endings_B34 at h
  by_cases c1 : (σ 0 51) ≤ l3
  · rw [if_pos c1] at h
    refine hV.run 5 [1] (ws' := wX8 σ) (pc' := 75) (ls' := [(0, .ref 0), (1, .int l1), (2, .int l2), (3, .int l3)]) (st' := [.int l2]) (ps := [(σ 0 51) ≤ l3]) rfl ⟨c1, trivial⟩ ?_
    cases h
    exact hV.ri rfl rfl rfl hP
  · rw [if_neg c1] at h
    by_cases c2 : l1 = (-1)
    · rw [if_pos c2] at h
      refine hV.run 8 [0, 1] (ws' := wX8 σ) (pc' := 61) (ls' := [(0, .ref 0), (1, .int l1), (2, .int l2), (3, .int l3)]) (st' := [.int l2]) (ps := [¬ (σ 0 51) ≤ l3, l1 = (-1)]) rfl ⟨c1, c2, trivial⟩ ?_
      refine hV.pick [0, 1, 3] (ls' := [(0, .ref 0), (1, .int l1), (3, .int l3)]) rfl ?_
      exact p_X8_endings_J61 hV n res hP kont34 hk34 σ l1 l3 l2 h
    · rw [if_neg c2] at h
      by_cases g3 : (11 * l3) < 0 ∨ 2211 ≤ (11 * l3).toNatClampNeg
      · rw [if_pos g3] at h; cases h
      rw [if_neg g3] at h
      by_cases c4 : (σ 25 (11 * l3).toNatClampNeg) = l1
      · rw [if_pos c4] at h
        refine hV.run 16 [0, 0, 0] (ws' := wX8 σ) (pc' := 61) (ls' := [(0, .ref 0), (1, .int l1), (2, .int l2), (3, .int l3)]) (st' := [.int l2]) (ps := [¬ (σ 0 51) ≤ l3, ¬ l1 = (-1), vp_in (11 * l3) 2211, (σ 25 (11 * l3).toNatClampNeg) = l1]) rfl ⟨c1, c2, g3, c4, trivial⟩ ?_
        refine hV.pick [0, 1, 3] (ls' := [(0, .ref 0), (1, .int l1), (3, .int l3)]) rfl ?_
        exact p_X8_endings_J61 hV n res hP kont34 hk34 σ l1 l3 l2 h
      · rw [if_neg c4] at h
        refine hV.run 17 [0, 0, 1] (ws' := wX8 σ) (pc' := 66) (ls' := [(0, .ref 0), (1, .int l1), (2, .int l2), (3, .int l3)]) (st' := [.int 0, .int l2]) (ps := [¬ (σ 0 51) ≤ l3, ¬ l1 = (-1), vp_in (11 * l3) 2211, ¬ (σ 25 (11 * l3).toNatClampNeg) = l1]) rfl ⟨c1, c2, g3, c4, trivial⟩ ?_
        refine hV.pick [0, 1, 3] (ls' := [(0, .ref 0), (1, .int l1), (3, .int l3)]) rfl ?_
        exact p_X8_endings_J66 hV n res hP kont34 hk34 σ l1 l3 0 l2 h
theorem p_X8_endings_L34 {l : Launch} {Post : Option Value → am_W → Prop} {V : am_VT} (hV : am_B l RX8 false 13 (am_cdT' tX8_endings) (am_rfL rfX8) (some .int) Post 36 V) (n : Nat) (res : (Int32 × am_M)) (hP : Post (some (.int res.1)) (wX8 res.2)) : ∀ (k : Nat) (σ : am_M) (l1 : Int32) (l2 : Int32) (l3 : Int32) (h : X8_endings_L34 n k σ l1 l2 l3 = some res), V (wX8 σ) 34 [(0, .ref 0), (1, .int l1), (2, .int l2), (3, .int l3)] [] := by
  intro k
  induction k with
  | zero => intro σ l1 l2 l3 h; cases h
  | succ k ih => intro σ l1 l2 l3 h; exact p_X8_endings_B34 hV n res hP _ ih σ l1 l2 l3 h
def X8_endings (n : Nat) (σ : am_M) (a1 : Int32) : Option (Int32 × am_M) := if (X8_isIn a1 (-1) 2) = true then (X8_tell n (sC σ 0 (am_u (σ 0) 2 0))).bind (fun q2 => if q2.1 = true then (X8_endings_L34 n n q2.2 a1 0 0) else (some ((-2), q2.2))) else (X8_fail (sC σ 0 (am_u (σ 0) 2 0)) 1).bind (fun q4 => some (q4.1, q4.2))
set_option maxRecDepth 100000 in
set_option maxHeartbeats 4000000 in
theorem c_X8_endings (l : Launch) (n : Nat) (σ : am_M) (a1 : Int32) (res : (Int32 × am_M)) (h : X8_endings n σ a1 = some res) : am_Con l yX8_endings cX8_endings 4 (some .int) 13 [.ref 0, .int a1] (wX8 σ) (fun (r : Option Value) (w : am_W) => r = (some (.int res.1)) ∧ w = (wX8 res.2)) := by
  refine am_metn (n0 := 36) (own := RX8) (cd := am_cdT' tX8_endings) (rf := am_rfL rfX8) (ini := false) rfl (by decide +kernel) rfl (by decide) dX8_endings rfX8_ok (Nat.le_of_ble_eq_true rfl) ?_
  intro V hV
  have hP : (fun (r : Option Value) (w : am_W) => r = (some (.int res.1)) ∧ w = (wX8 res.2)) (some (.int res.1)) (wX8 res.2) := ⟨rfl, rfl⟩
  show V (wX8 σ) 0 [(0, .ref 0), (1, .int a1)] []
  unfold X8_endings at h
  refine hV.run 6 [] (ws' := wX8 (sC σ 0 (am_u (σ 0) 2 0))) (pc' := 8) (ls' := [(0, .ref 0), (1, .int a1)]) (st' := [.int 2, .int (-1), .int a1]) (ps := []) rfl trivial ?_
  refine hV.cSi (as := [.int a1, .int (-1), .int 2]) (js := []) (rest := []) (st := [.int 2, .int (-1), .int a1]) (ws2 := wX8 (sC σ 0 (am_u (σ 0) 2 0))) (pc2 := 11) kX8_276 (c_X8_isIn l a1 (-1) 2) rfl rfl rfl rfl rfl rfl rfl rfl rfl rfl ?_
  by_cases c1 : (X8_isIn a1 (-1) 2) = true
  · rw [if_pos c1] at h
    refine hV.run 2 [1] (ws' := wX8 (sC σ 0 (am_u (σ 0) 2 0))) (pc' := 21) (ls' := [(0, .ref 0), (1, .int a1)]) (st' := [.ref 0]) (ps := [¬ (b2i (X8_isIn a1 (-1) 2)) = 0]) rfl ⟨(b2i_t c1), trivial⟩ ?_
    obtain ⟨q2, hq2, h⟩ := am_bind h
    refine hV.cOi (as := []) (rest := []) (st := [.ref 0]) (ws2 := wX8 q2.2) (pc2 := 24) kX8_483 (c_X8_tell l n (sC σ 0 (am_u (σ 0) 2 0)) q2 hq2) rfl rfl rfl rfl rfl rfl rfl rfl rfl ?_
    by_cases c3 : q2.1 = true
    · rw [if_pos c3] at h
      refine hV.run 5 [1] (ws' := wX8 q2.2) (pc' := 34) (ls' := [(3, .int 0), (2, .int 0), (0, .ref 0), (1, .int a1)]) (st' := []) (ps := [¬ (b2i q2.1) = 0]) rfl ⟨(b2i_t c3), trivial⟩ ?_
      refine hV.pick [2, 3, 1, 0] (ls' := [(0, .ref 0), (1, .int a1), (2, .int 0), (3, .int 0)]) rfl ?_
      exact p_X8_endings_L34 hV n res hP n q2.2 a1 0 0 h
    · rw [if_neg c3] at h
      refine hV.run 2 [0] (ws' := wX8 q2.2) (pc' := 29) (ls' := [(0, .ref 0), (1, .int a1)]) (st' := [.int (-2)]) (ps := [(b2i q2.1) = 0]) rfl ⟨(b2i_f c3), trivial⟩ ?_
      cases h
      exact hV.ri rfl rfl rfl hP
  · rw [if_neg c1] at h
    refine hV.run 3 [0] (ws' := wX8 (sC σ 0 (am_u (σ 0) 2 0))) (pc' := 16) (ls' := [(0, .ref 0), (1, .int a1)]) (st' := [.int 1, .ref 0]) (ps := [(b2i (X8_isIn a1 (-1) 2)) = 0]) rfl ⟨(b2i_f c1), trivial⟩ ?_
    obtain ⟨q4, hq4, h⟩ := am_bind h
    refine hV.cOi (as := [.int 1]) (rest := []) (st := [.int 1, .ref 0]) (ws2 := wX8 q4.2) (pc2 := 19) kX8_313 (c_X8_fail l (sC σ 0 (am_u (σ 0) 2 0)) 1 q4 hq4) rfl rfl rfl rfl rfl rfl rfl rfl rfl ?_
    cases h
    exact hV.ri rfl rfl rfl hP

