def wX3 (σ : am_M) : am_W := [.inr (3, [.ref 1, .ref 2, .ref 3, .ref 4, .ref 5, .ref 6, .ref 7, .int (σ 0 7), .int (σ 0 8), .int (σ 0 9)]),
  .inl (0, 40, .inl (σ 1)),
  .inl (0, 40, .inl (σ 2)),
  .inl (0, 40, .inl (σ 3)),
  .inl (0, 40, .inl (σ 4)),
  .inl (0, 40, .inl (σ 5)),
  .inl (0, 120, .inl (σ 6)),
  .inl (0, 900, .inl (σ 7))]
def X3_clear (σ : am_M) : Option am_M := some (sC σ 0 (am_u (am_u (am_u (σ 0) 7 0) 8 0) 9 0))
set_option maxRecDepth 100000 in
set_option maxHeartbeats 4000000 in
theorem c_X3_clear (l : Launch) (σ : am_M) (res : am_M) (h : X3_clear σ = some res) : am_Con l yX3_clear cX3_clear 1 none 1 [.ref 0] (wX3 σ) (fun (r : Option Value) (w : am_W) => r = none ∧ w = (wX3 res)) := by
  refine am_metn (n0 := 8) (own := RX3) (cd := am_cdT' tX3_clear) (rf := am_rfL rfX3) (ini := false) rfl (by decide +kernel) rfl (by decide) dX3_clear rfX3_ok (Nat.le_of_ble_eq_true rfl) ?_
  intro V hV
  have hP : (fun (r : Option Value) (w : am_W) => r = none ∧ w = (wX3 res)) none (wX3 res) := ⟨rfl, rfl⟩
  show V (wX3 σ) 0 [(0, .ref 0)] []
  unfold X3_clear at h
  refine hV.run 9 [] (ws' := wX3 (sC σ 0 (am_u (am_u (am_u (σ 0) 7 0) 8 0) 9 0))) (pc' := 15) (ls' := [(0, .ref 0)]) (st' := []) (ps := []) rfl trivial ?_
  cases h
  exact hV.rv rfl rfl rfl hP

def X3_kindOf (σ : am_M) (a1 : Int32) : Int32 := if a1 < 0 then (-1) else (if (σ 0 7) ≤ a1 then (-1) else (jat 40 (σ 1) a1))
set_option maxRecDepth 100000 in
set_option maxHeartbeats 4000000 in
theorem c_X3_kindOf (l : Launch) (σ : am_M) (a1 : Int32) : am_Con l yX3_kindOf cX3_kindOf 2 (some .int) 2 [.ref 0, .int a1] (wX3 σ) (fun (r : Option Value) (w : am_W) => r = (some (.int (X3_kindOf σ a1))) ∧ w = (wX3 σ)) := by
  obtain ⟨res, h⟩ : ∃ res, (X3_kindOf σ a1) = res := ⟨_, rfl⟩
  rw [h]
  refine am_metn (n0 := 8) (own := RX3) (cd := am_cdT' tX3_kindOf) (rf := am_rfL rfX3) (ini := false) rfl (by decide +kernel) rfl (by decide) dX3_kindOf rfX3_ok (Nat.le_of_ble_eq_true rfl) ?_
  intro V hV
  have hP : (fun (r : Option Value) (w : am_W) => r = (some (.int res)) ∧ w = (wX3 σ)) (some (.int res)) (wX3 σ) := ⟨rfl, rfl⟩
  show V (wX3 σ) 0 [(0, .ref 0), (1, .int a1)] []
  unfold X3_kindOf at h
  by_cases c1 : a1 < 0
  · rw [if_pos c1] at h
    refine hV.run 3 [1] (ws' := wX3 σ) (pc' := 24) (ls' := [(0, .ref 0), (1, .int a1)]) (st' := [.int (-1)]) (ps := [a1 < 0]) rfl ⟨c1, trivial⟩ ?_
    subst h
    exact hV.ri rfl rfl rfl hP
  · rw [if_neg c1] at h
    by_cases c2 : (σ 0 7) ≤ a1
    · rw [if_pos c2] at h
      refine hV.run 7 [0, 1] (ws' := wX3 σ) (pc' := 24) (ls' := [(0, .ref 0), (1, .int a1)]) (st' := [.int (-1)]) (ps := [¬ a1 < 0, (σ 0 7) ≤ a1]) rfl ⟨c1, c2, trivial⟩ ?_
      subst h
      exact hV.ri rfl rfl rfl hP
    · rw [if_neg c2] at h
      refine hV.run 9 [0, 0] (ws' := wX3 σ) (pc' := 17) (ls' := [(0, .ref 0), (1, .int a1)]) (st' := [.int a1, .ref 1]) (ps := [¬ a1 < 0, ¬ (σ 0 7) ≤ a1]) rfl ⟨c1, c2, trivial⟩ ?_
      refine hV.cSi (as := [.ref 0, .int a1]) (js := [1]) (rest := []) (st := [.int a1, .ref 1]) (ws2 := wX3 σ) (pc2 := 20) kX3_47 (c_at l 1 40 (by decide) (σ 1) a1) rfl rfl rfl rfl rfl rfl rfl rfl rfl rfl ?_
      refine hV.run 1 [] (ws' := wX3 σ) (pc' := 24) (ls' := [(0, .ref 0), (1, .int a1)]) (st' := [.int (jat 40 (σ 1) a1)]) (ps := []) rfl trivial ?_
      subst h
      exact hV.ri rfl rfl rfl hP

def X3_emit (σ : am_M) (a1 : Int32) : Option am_M := if (σ 0 9) < 0 then (some σ) else (if (Int32.ofNat 900) ≤ (σ 0 9) then (some σ) else (some (sC (sC σ 0 (am_u (σ 0) 9 ((σ 0 9) + 1))) 7 (upd (σ 7) (σ 0 9).toNatClampNeg a1))))
set_option maxRecDepth 100000 in
set_option maxHeartbeats 4000000 in
theorem c_X3_emit (l : Launch) (σ : am_M) (a1 : Int32) (res : am_M) (h : X3_emit σ a1 = some res) : am_Con l yX3_emit cX3_emit 2 none 1 [.ref 0, .int a1] (wX3 σ) (fun (r : Option Value) (w : am_W) => r = none ∧ w = (wX3 res)) := by
  refine am_metn (n0 := 8) (own := RX3) (cd := am_cdT' tX3_emit) (rf := am_rfL rfX3) (ini := false) rfl (by decide +kernel) rfl (by decide) dX3_emit rfX3_ok (Nat.le_of_ble_eq_true rfl) ?_
  intro V hV
  have hP : (fun (r : Option Value) (w : am_W) => r = none ∧ w = (wX3 res)) none (wX3 res) := ⟨rfl, rfl⟩
  show V (wX3 σ) 0 [(0, .ref 0), (1, .int a1)] []
  unfold X3_emit at h
  by_cases c1 : (σ 0 9) < 0
  · rw [if_pos c1] at h
    refine hV.run 3 [1] (ws' := wX3 σ) (pc' := 39) (ls' := [(0, .ref 0), (1, .int a1)]) (st' := []) (ps := [(σ 0 9) < 0]) rfl ⟨c1, trivial⟩ ?_
    cases h
    exact hV.rv rfl rfl rfl hP
  · rw [if_neg c1] at h
    by_cases c2 : (Int32.ofNat 900) ≤ (σ 0 9)
    · rw [if_pos c2] at h
      refine hV.run 9 [0, 1] (ws' := wX3 σ) (pc' := 39) (ls' := [(0, .ref 0), (1, .int a1)]) (st' := []) (ps := [¬ (σ 0 9) < 0, (Int32.ofNat 900) ≤ (σ 0 9)]) rfl ⟨c1, c2, trivial⟩ ?_
      cases h
      exact hV.rv rfl rfl rfl hP
    · rw [if_neg c2] at h
      refine hV.run 21 [0, 0] (ws' := wX3 (sC (sC σ 0 (am_u (σ 0) 9 ((σ 0 9) + 1))) 7 (upd (σ 7) (σ 0 9).toNatClampNeg a1))) (pc' := 39) (ls' := [(0, .ref 0), (1, .int a1)]) (st' := []) (ps := [¬ (σ 0 9) < 0, ¬ (Int32.ofNat 900) ≤ (σ 0 9), vp_in (σ 0 9) 900]) rfl ⟨c1, c2, (am_in1 c1 c2 (by decide)), trivial⟩ ?_
      cases h
      exact hV.rv rfl rfl rfl hP

def X3_open_B56 (n : Nat) (kont56 : am_M → Int32 → Int32 → Int32 → Option (Int32 × am_M)) (σ : am_M) (l1 : Int32) (l2 : Int32) (l3 : Int32) : Option (Int32 × am_M) := if 3 ≤ l3 then (if l1 = 4 then (some (l2, sC σ 0 (am_u (am_u (σ 0) 7 ((σ 0 7) + 1)) 8 ((σ 0 8) + 1)))) else (some (l2, sC σ 0 (am_u (σ 0) 7 ((σ 0 7) + 1))))) else (kont56 (sC σ 6 (jput 120 (σ 6) ((l2 * 3) + l3) (-1))) l1 l2 (l3 + 1))
def X3_open_L56 (n : Nat) : Nat → am_M → Int32 → Int32 → Int32 → Option (Int32 × am_M)
 | 0 => fun _ _ _ _ => none
 | k + 1 => fun σ l1 l2 l3 => X3_open_B56 n (X3_open_L56 n k) σ l1 l2 l3
set_option maxRecDepth 100000 in
set_option maxHeartbeats 4000000 in
theorem p_X3_open_B56 {l : Launch} {Post : Option Value → am_W → Prop} {V : am_VT} (hV : am_B l RX3 false 2 (am_cdT' tX3_open) (am_rfL rfX3) (some .int) Post 8 V) (n : Nat) (res : (Int32 × am_M)) (hP : Post (some (.int res.1)) (wX3 res.2)) (kont56 : am_M → Int32 → Int32 → Int32 → Option (Int32 × am_M)) (hk56 : ∀ (σ : am_M) (l1 : Int32) (l2 : Int32) (l3 : Int32), kont56 σ l1 l2 l3 = some res → V (wX3 σ) 56 [(0, .ref 0), (1, .int l1), (2, .int l2), (3, .int l3)] []) (σ : am_M) (l1 : Int32) (l2 : Int32) (l3 : Int32) (h : X3_open_B56 n kont56 σ l1 l2 l3 = some res) : V (wX3 σ) 56 [(0, .ref 0), (1, .int l1), (2, .int l2), (3, .int l3)] [] := by
  unfold X3_open_B56 at h
  by_cases c1 : 3 ≤ l3
  · rw [if_pos c1] at h
    by_cases c2 : l1 = 4
    · rw [if_pos c2] at h
      refine hV.run 19 [1, 0] (ws' := wX3 (sC σ 0 (am_u (am_u (σ 0) 7 ((σ 0 7) + 1)) 8 ((σ 0 8) + 1)))) (pc' := 106) (ls' := [(0, .ref 0), (1, .int l1), (2, .int l2), (3, .int l3)]) (st' := [.int l2]) (ps := [3 ≤ l3, l1 = 4]) rfl ⟨c1, c2, trivial⟩ ?_
      cases h
      exact hV.ri rfl rfl rfl hP
    · rw [if_neg c2] at h
      refine hV.run 13 [1, 1] (ws' := wX3 (sC σ 0 (am_u (σ 0) 7 ((σ 0 7) + 1)))) (pc' := 106) (ls' := [(0, .ref 0), (1, .int l1), (2, .int l2), (3, .int l3)]) (st' := [.int l2]) (ps := [3 ≤ l3, ¬ l1 = 4]) rfl ⟨c1, c2, trivial⟩ ?_
      cases h
      exact hV.ri rfl rfl rfl hP
  · rw [if_neg c1] at h
    refine hV.run 11 [0] (ws' := wX3 σ) (pc' := 71) (ls' := [(0, .ref 0), (1, .int l1), (2, .int l2), (3, .int l3)]) (st' := [.int (-1), .int ((l2 * 3) + l3), .ref 6]) (ps := [¬ 3 ≤ l3]) rfl ⟨c1, trivial⟩ ?_
    refine hV.cSv (as := [.ref 0, .int ((l2 * 3) + l3), .int (-1)]) (js := [6]) (rest := []) (st := [.int (-1), .int ((l2 * 3) + l3), .ref 6]) (ws2 := wX3 (sC σ 6 (jput 120 (σ 6) ((l2 * 3) + l3) (-1)))) (pc2 := 74) kX3_43 (c_put l 1 120 (by decide) (σ 6) ((l2 * 3) + l3) (-1)) rfl rfl rfl rfl rfl rfl rfl rfl rfl rfl ?_
    refine hV.run 2 [] (ws' := wX3 (sC σ 6 (jput 120 (σ 6) ((l2 * 3) + l3) (-1)))) (pc' := 56) (ls' := [(3, .int (l3 + 1)), (0, .ref 0), (1, .int l1), (2, .int l2)]) (st' := []) (ps := []) rfl trivial ?_
    refine hV.pick [1, 2, 3, 0] (ls' := [(0, .ref 0), (1, .int l1), (2, .int l2), (3, .int (l3 + 1))]) rfl ?_
    exact hk56 (sC σ 6 (jput 120 (σ 6) ((l2 * 3) + l3) (-1))) l1 l2 (l3 + 1) h
theorem p_X3_open_L56 {l : Launch} {Post : Option Value → am_W → Prop} {V : am_VT} (hV : am_B l RX3 false 2 (am_cdT' tX3_open) (am_rfL rfX3) (some .int) Post 8 V) (n : Nat) (res : (Int32 × am_M)) (hP : Post (some (.int res.1)) (wX3 res.2)) : ∀ (k : Nat) (σ : am_M) (l1 : Int32) (l2 : Int32) (l3 : Int32) (h : X3_open_L56 n k σ l1 l2 l3 = some res), V (wX3 σ) 56 [(0, .ref 0), (1, .int l1), (2, .int l2), (3, .int l3)] [] := by
  intro k
  induction k with
  | zero => intro σ l1 l2 l3 h; cases h
  | succ k ih => intro σ l1 l2 l3 h; exact p_X3_open_B56 hV n res hP _ ih σ l1 l2 l3 h
def X3_open (n : Nat) (σ : am_M) (a1 : Int32) : Option (Int32 × am_M) := X3_open_L56 n n (sC (sC (sC (sC (sC σ 1 (jput 40 (σ 1) (σ 0 7) a1)) 2 (jput 40 (σ 2) (σ 0 7) ((σ 0 7) + 1))) 3 (jput 40 (σ 3) (σ 0 7) ((σ 0 7) + 1))) 4 (jput 40 (σ 4) (σ 0 7) 0)) 5 (jput 40 (σ 5) (σ 0 7) 0)) a1 (σ 0 7) 0
set_option maxRecDepth 100000 in
set_option maxHeartbeats 4000000 in
theorem c_X3_open (l : Launch) (n : Nat) (σ : am_M) (a1 : Int32) (res : (Int32 × am_M)) (h : X3_open n σ a1 = some res) : am_Con l yX3_open cX3_open 4 (some .int) 2 [.ref 0, .int a1] (wX3 σ) (fun (r : Option Value) (w : am_W) => r = (some (.int res.1)) ∧ w = (wX3 res.2)) := by
  refine am_metn (n0 := 8) (own := RX3) (cd := am_cdT' tX3_open) (rf := am_rfL rfX3) (ini := false) rfl (by decide +kernel) rfl (by decide) dX3_open rfX3_ok (Nat.le_of_ble_eq_true rfl) ?_
  intro V hV
  have hP : (fun (r : Option Value) (w : am_W) => r = (some (.int res.1)) ∧ w = (wX3 res.2)) (some (.int res.1)) (wX3 res.2) := ⟨rfl, rfl⟩
  show V (wX3 σ) 0 [(0, .ref 0), (1, .int a1)] []
  unfold X3_open at h
  refine hV.run 7 [] (ws' := wX3 σ) (pc' := 11) (ls' := [(2, .int (σ 0 7)), (0, .ref 0), (1, .int a1)]) (st' := [.int a1, .int (σ 0 7), .ref 1]) (ps := []) rfl trivial ?_
  refine hV.cSv (as := [.ref 0, .int (σ 0 7), .int a1]) (js := [1]) (rest := []) (st := [.int a1, .int (σ 0 7), .ref 1]) (ws2 := wX3 (sC σ 1 (jput 40 (σ 1) (σ 0 7) a1))) (pc2 := 14) kX3_43 (c_put l 1 40 (by decide) (σ 1) (σ 0 7) a1) rfl rfl rfl rfl rfl rfl rfl rfl rfl rfl ?_
  refine hV.run 6 [] (ws' := wX3 (sC σ 1 (jput 40 (σ 1) (σ 0 7) a1))) (pc' := 22) (ls' := [(2, .int (σ 0 7)), (0, .ref 0), (1, .int a1)]) (st' := [.int ((σ 0 7) + 1), .int (σ 0 7), .ref 2]) (ps := []) rfl trivial ?_
  refine hV.cSv (as := [.ref 0, .int (σ 0 7), .int ((σ 0 7) + 1)]) (js := [2]) (rest := []) (st := [.int ((σ 0 7) + 1), .int (σ 0 7), .ref 2]) (ws2 := wX3 (sC (sC σ 1 (jput 40 (σ 1) (σ 0 7) a1)) 2 (jput 40 (σ 2) (σ 0 7) ((σ 0 7) + 1)))) (pc2 := 25) kX3_43 (c_put l 1 40 (by decide) (σ 2) (σ 0 7) ((σ 0 7) + 1)) rfl rfl rfl rfl rfl rfl rfl rfl rfl rfl ?_
  refine hV.run 6 [] (ws' := wX3 (sC (sC σ 1 (jput 40 (σ 1) (σ 0 7) a1)) 2 (jput 40 (σ 2) (σ 0 7) ((σ 0 7) + 1)))) (pc' := 33) (ls' := [(2, .int (σ 0 7)), (0, .ref 0), (1, .int a1)]) (st' := [.int ((σ 0 7) + 1), .int (σ 0 7), .ref 3]) (ps := []) rfl trivial ?_
  refine hV.cSv (as := [.ref 0, .int (σ 0 7), .int ((σ 0 7) + 1)]) (js := [3]) (rest := []) (st := [.int ((σ 0 7) + 1), .int (σ 0 7), .ref 3]) (ws2 := wX3 (sC (sC (sC σ 1 (jput 40 (σ 1) (σ 0 7) a1)) 2 (jput 40 (σ 2) (σ 0 7) ((σ 0 7) + 1))) 3 (jput 40 (σ 3) (σ 0 7) ((σ 0 7) + 1)))) (pc2 := 36) kX3_43 (c_put l 1 40 (by decide) (σ 3) (σ 0 7) ((σ 0 7) + 1)) rfl rfl rfl rfl rfl rfl rfl rfl rfl rfl ?_
  refine hV.run 4 [] (ws' := wX3 (sC (sC (sC σ 1 (jput 40 (σ 1) (σ 0 7) a1)) 2 (jput 40 (σ 2) (σ 0 7) ((σ 0 7) + 1))) 3 (jput 40 (σ 3) (σ 0 7) ((σ 0 7) + 1)))) (pc' := 42) (ls' := [(2, .int (σ 0 7)), (0, .ref 0), (1, .int a1)]) (st' := [.int 0, .int (σ 0 7), .ref 4]) (ps := []) rfl trivial ?_
  refine hV.cSv (as := [.ref 0, .int (σ 0 7), .int 0]) (js := [4]) (rest := []) (st := [.int 0, .int (σ 0 7), .ref 4]) (ws2 := wX3 (sC (sC (sC (sC σ 1 (jput 40 (σ 1) (σ 0 7) a1)) 2 (jput 40 (σ 2) (σ 0 7) ((σ 0 7) + 1))) 3 (jput 40 (σ 3) (σ 0 7) ((σ 0 7) + 1))) 4 (jput 40 (σ 4) (σ 0 7) 0))) (pc2 := 45) kX3_43 (c_put l 1 40 (by decide) (σ 4) (σ 0 7) 0) rfl rfl rfl rfl rfl rfl rfl rfl rfl rfl ?_
  refine hV.run 4 [] (ws' := wX3 (sC (sC (sC (sC σ 1 (jput 40 (σ 1) (σ 0 7) a1)) 2 (jput 40 (σ 2) (σ 0 7) ((σ 0 7) + 1))) 3 (jput 40 (σ 3) (σ 0 7) ((σ 0 7) + 1))) 4 (jput 40 (σ 4) (σ 0 7) 0))) (pc' := 51) (ls' := [(2, .int (σ 0 7)), (0, .ref 0), (1, .int a1)]) (st' := [.int 0, .int (σ 0 7), .ref 5]) (ps := []) rfl trivial ?_
  refine hV.cSv (as := [.ref 0, .int (σ 0 7), .int 0]) (js := [5]) (rest := []) (st := [.int 0, .int (σ 0 7), .ref 5]) (ws2 := wX3 (sC (sC (sC (sC (sC σ 1 (jput 40 (σ 1) (σ 0 7) a1)) 2 (jput 40 (σ 2) (σ 0 7) ((σ 0 7) + 1))) 3 (jput 40 (σ 3) (σ 0 7) ((σ 0 7) + 1))) 4 (jput 40 (σ 4) (σ 0 7) 0)) 5 (jput 40 (σ 5) (σ 0 7) 0))) (pc2 := 54) kX3_43 (c_put l 1 40 (by decide) (σ 5) (σ 0 7) 0) rfl rfl rfl rfl rfl rfl rfl rfl rfl rfl ?_
  refine hV.run 2 [] (ws' := wX3 (sC (sC (sC (sC (sC σ 1 (jput 40 (σ 1) (σ 0 7) a1)) 2 (jput 40 (σ 2) (σ 0 7) ((σ 0 7) + 1))) 3 (jput 40 (σ 3) (σ 0 7) ((σ 0 7) + 1))) 4 (jput 40 (σ 4) (σ 0 7) 0)) 5 (jput 40 (σ 5) (σ 0 7) 0))) (pc' := 56) (ls' := [(3, .int 0), (2, .int (σ 0 7)), (0, .ref 0), (1, .int a1)]) (st' := []) (ps := []) rfl trivial ?_
  refine hV.pick [2, 3, 1, 0] (ls' := [(0, .ref 0), (1, .int a1), (2, .int (σ 0 7)), (3, .int 0)]) rfl ?_
  exact p_X3_open_L56 hV n res hP n (sC (sC (sC (sC (sC σ 1 (jput 40 (σ 1) (σ 0 7) a1)) 2 (jput 40 (σ 2) (σ 0 7) ((σ 0 7) + 1))) 3 (jput 40 (σ 3) (σ 0 7) ((σ 0 7) + 1))) 4 (jput 40 (σ 4) (σ 0 7) 0)) 5 (jput 40 (σ 5) (σ 0 7) 0)) a1 (σ 0 7) 0 h

def X3_close_J85 (n : Nat) (σ : am_M) (l1 : Int32) (l2 : Int32) (s0 : Int32) (s1 : Int32) : Option am_M := some (sC (sC σ 2 (jput 40 (σ 2) s1 s0)) 3 (jput 40 (σ 3) l1 l2))
set_option maxRecDepth 100000 in
set_option maxHeartbeats 4000000 in
theorem p_X3_close_J85 {l : Launch} {Post : Option Value → am_W → Prop} {V : am_VT} (hV : am_B l RX3 false 2 (am_cdT' tX3_close) (am_rfL rfX3) none Post 8 V) (n : Nat) (res : am_M) (hP : Post none (wX3 res)) (σ : am_M) (l1 : Int32) (l2 : Int32) (s0 : Int32) (s1 : Int32) (h : X3_close_J85 n σ l1 l2 s0 s1 = some res) : V (wX3 σ) 85 [(0, .ref 0), (1, .int l1), (2, .int l2)] [.int s0, .int s1, .ref 2] := by
  unfold X3_close_J85 at h
  refine hV.cSv (as := [.ref 0, .int s1, .int s0]) (js := [2]) (rest := []) (st := [.int s0, .int s1, .ref 2]) (ws2 := wX3 (sC σ 2 (jput 40 (σ 2) s1 s0))) (pc2 := 88) kX3_43 (c_put l 1 40 (by decide) (σ 2) s1 s0) rfl rfl rfl rfl rfl rfl rfl rfl rfl rfl ?_
  refine hV.run 4 [] (ws' := wX3 (sC σ 2 (jput 40 (σ 2) s1 s0))) (pc' := 94) (ls' := [(0, .ref 0), (1, .int l1), (2, .int l2)]) (st' := [.int l2, .int l1, .ref 3]) (ps := []) rfl trivial ?_
  refine hV.cSv (as := [.ref 0, .int l1, .int l2]) (js := [3]) (rest := []) (st := [.int l2, .int l1, .ref 3]) (ws2 := wX3 (sC (sC σ 2 (jput 40 (σ 2) s1 s0)) 3 (jput 40 (σ 3) l1 l2))) (pc2 := 97) kX3_43 (c_put l 1 40 (by decide) (σ 3) l1 l2) rfl rfl rfl rfl rfl rfl rfl rfl rfl rfl ?_
  cases h
  exact hV.rv rfl rfl rfl hP
def X3_close_J57 (n : Nat) (kont4 : am_M → Int32 → Int32 → Int32 → Option am_M) (σ : am_M) (l1 : Int32) (l2 : Int32) (l3 : Int32) : Option am_M := kont4 σ l1 l2 (l3 + 1)
set_option maxRecDepth 100000 in
set_option maxHeartbeats 4000000 in
theorem p_X3_close_J57 {l : Launch} {Post : Option Value → am_W → Prop} {V : am_VT} (hV : am_B l RX3 false 2 (am_cdT' tX3_close) (am_rfL rfX3) none Post 8 V) (n : Nat) (res : am_M) (hP : Post none (wX3 res)) (kont4 : am_M → Int32 → Int32 → Int32 → Option am_M) (hk4 : ∀ (σ : am_M) (l1 : Int32) (l2 : Int32) (l3 : Int32), kont4 σ l1 l2 l3 = some res → V (wX3 σ) 4 [(0, .ref 0), (1, .int l1), (2, .int l2), (3, .int l3)] []) (σ : am_M) (l1 : Int32) (l2 : Int32) (l3 : Int32) (h : X3_close_J57 n kont4 σ l1 l2 l3 = some res) : V (wX3 σ) 57 [(0, .ref 0), (1, .int l1), (2, .int l2), (3, .int l3)] [] := by
  unfold X3_close_J57 at h
  refine hV.run 2 [] (ws' := wX3 σ) (pc' := 4) (ls' := [(3, .int (l3 + 1)), (0, .ref 0), (1, .int l1), (2, .int l2)]) (st' := []) (ps := []) rfl trivial ?_
  refine hV.pick [1, 2, 3, 0] (ls' := [(0, .ref 0), (1, .int l1), (2, .int l2), (3, .int (l3 + 1))]) rfl ?_
  exact hk4 σ l1 l2 (l3 + 1) h
def X3_close_J33 (n : Nat) (kont4 : am_M → Int32 → Int32 → Int32 → Option am_M) (σ : am_M) (l1 : Int32) (l2 : Int32) (l3 : Int32) : Option am_M := if (jat 40 (σ 3) l3) = l2 then (X3_close_J57 n kont4 (sC σ 3 (jput 40 (σ 3) l3 (σ 0 7))) l1 l2 l3) else (X3_close_J57 n kont4 σ l1 l2 l3)
set_option maxRecDepth 100000 in
set_option maxHeartbeats 4000000 in
theorem p_X3_close_J33 {l : Launch} {Post : Option Value → am_W → Prop} {V : am_VT} (hV : am_B l RX3 false 2 (am_cdT' tX3_close) (am_rfL rfX3) none Post 8 V) (n : Nat) (res : am_M) (hP : Post none (wX3 res)) (kont4 : am_M → Int32 → Int32 → Int32 → Option am_M) (hk4 : ∀ (σ : am_M) (l1 : Int32) (l2 : Int32) (l3 : Int32), kont4 σ l1 l2 l3 = some res → V (wX3 σ) 4 [(0, .ref 0), (1, .int l1), (2, .int l2), (3, .int l3)] []) (σ : am_M) (l1 : Int32) (l2 : Int32) (l3 : Int32) (h : X3_close_J33 n kont4 σ l1 l2 l3 = some res) : V (wX3 σ) 33 [(0, .ref 0), (1, .int l1), (2, .int l2), (3, .int l3)] [] := by
  unfold X3_close_J33 at h
  refine hV.run 3 [] (ws' := wX3 σ) (pc' := 38) (ls' := [(0, .ref 0), (1, .int l1), (2, .int l2), (3, .int l3)]) (st' := [.int l3, .ref 3]) (ps := []) rfl trivial ?_
  refine hV.cSi (as := [.ref 0, .int l3]) (js := [3]) (rest := []) (st := [.int l3, .ref 3]) (ws2 := wX3 σ) (pc2 := 41) kX3_47 (c_at l 1 40 (by decide) (σ 3) l3) rfl rfl rfl rfl rfl rfl rfl rfl rfl rfl ?_
  by_cases c1 : (jat 40 (σ 3) l3) = l2
  · rw [if_pos c1] at h
    refine hV.run 7 [0] (ws' := wX3 σ) (pc' := 54) (ls' := [(0, .ref 0), (1, .int l1), (2, .int l2), (3, .int l3)]) (st' := [.int (σ 0 7), .int l3, .ref 3]) (ps := [(jat 40 (σ 3) l3) = l2]) rfl ⟨c1, trivial⟩ ?_
    refine hV.cSv (as := [.ref 0, .int l3, .int (σ 0 7)]) (js := [3]) (rest := []) (st := [.int (σ 0 7), .int l3, .ref 3]) (ws2 := wX3 (sC σ 3 (jput 40 (σ 3) l3 (σ 0 7)))) (pc2 := 57) kX3_43 (c_put l 1 40 (by decide) (σ 3) l3 (σ 0 7)) rfl rfl rfl rfl rfl rfl rfl rfl rfl rfl ?_
    exact p_X3_close_J57 hV n res hP kont4 hk4 (sC σ 3 (jput 40 (σ 3) l3 (σ 0 7))) l1 l2 l3 h
  · rw [if_neg c1] at h
    refine hV.run 2 [1] (ws' := wX3 σ) (pc' := 57) (ls' := [(0, .ref 0), (1, .int l1), (2, .int l2), (3, .int l3)]) (st' := []) (ps := [¬ (jat 40 (σ 3) l3) = l2]) rfl ⟨c1, trivial⟩ ?_
    exact p_X3_close_J57 hV n res hP kont4 hk4 σ l1 l2 l3 h
def X3_close_B4 (n : Nat) (kont4 : am_M → Int32 → Int32 → Int32 → Option am_M) (σ : am_M) (l1 : Int32) (l2 : Int32) (l3 : Int32) : Option am_M := if l2 ≤ l3 then (if l2 = (l1 + 1) then (X3_close_J85 n σ l1 l2 (σ 0 7) l1) else (X3_close_J85 n σ l1 l2 (l1 + 1) l1)) else (if (jat 40 (σ 2) l3) = l2 then (X3_close_J33 n kont4 (sC σ 2 (jput 40 (σ 2) l3 (σ 0 7))) l1 l2 l3) else (X3_close_J33 n kont4 σ l1 l2 l3))
def X3_close_L4 (n : Nat) : Nat → am_M → Int32 → Int32 → Int32 → Option am_M
 | 0 => fun _ _ _ _ => none
 | k + 1 => fun σ l1 l2 l3 => X3_close_B4 n (X3_close_L4 n k) σ l1 l2 l3
set_option maxRecDepth 100000 in
set_option maxHeartbeats 4000000 in
theorem p_X3_close_B4 {l : Launch} {Post : Option Value → am_W → Prop} {V : am_VT} (hV : am_B l RX3 false 2 (am_cdT' tX3_close) (am_rfL rfX3) none Post 8 V) (n : Nat) (res : am_M) (hP : Post none (wX3 res)) (kont4 : am_M → Int32 → Int32 → Int32 → Option am_M) (hk4 : ∀ (σ : am_M) (l1 : Int32) (l2 : Int32) (l3 : Int32), kont4 σ l1 l2 l3 = some res → V (wX3 σ) 4 [(0, .ref 0), (1, .int l1), (2, .int l2), (3, .int l3)] []) (σ : am_M) (l1 : Int32) (l2 : Int32) (l3 : Int32) (h : X3_close_B4 n kont4 σ l1 l2 l3 = some res) : V (wX3 σ) 4 [(0, .ref 0), (1, .int l1), (2, .int l2), (3, .int l3)] [] := by
  unfold X3_close_B4 at h
  by_cases c1 : l2 ≤ l3
  · rw [if_pos c1] at h
    by_cases c2 : l2 = (l1 + 1)
    · rw [if_pos c2] at h
      refine hV.run 14 [1, 0] (ws' := wX3 σ) (pc' := 85) (ls' := [(0, .ref 0), (1, .int l1), (2, .int l2), (3, .int l3)]) (st' := [.int (σ 0 7), .int l1, .ref 2]) (ps := [l2 ≤ l3, l2 = (l1 + 1)]) rfl ⟨c1, c2, trivial⟩ ?_
      refine hV.pick [0, 1, 2] (ls' := [(0, .ref 0), (1, .int l1), (2, .int l2)]) rfl ?_
      exact p_X3_close_J85 hV n res hP σ l1 l2 (σ 0 7) l1 h
    · rw [if_neg c2] at h
      refine hV.run 14 [1, 1] (ws' := wX3 σ) (pc' := 85) (ls' := [(0, .ref 0), (1, .int l1), (2, .int l2), (3, .int l3)]) (st' := [.int (l1 + 1), .int l1, .ref 2]) (ps := [l2 ≤ l3, ¬ l2 = (l1 + 1)]) rfl ⟨c1, c2, trivial⟩ ?_
      refine hV.pick [0, 1, 2] (ls' := [(0, .ref 0), (1, .int l1), (2, .int l2)]) rfl ?_
      exact p_X3_close_J85 hV n res hP σ l1 l2 (l1 + 1) l1 h
  · rw [if_neg c1] at h
    refine hV.run 6 [0] (ws' := wX3 σ) (pc' := 14) (ls' := [(0, .ref 0), (1, .int l1), (2, .int l2), (3, .int l3)]) (st' := [.int l3, .ref 2]) (ps := [¬ l2 ≤ l3]) rfl ⟨c1, trivial⟩ ?_
    refine hV.cSi (as := [.ref 0, .int l3]) (js := [2]) (rest := []) (st := [.int l3, .ref 2]) (ws2 := wX3 σ) (pc2 := 17) kX3_47 (c_at l 1 40 (by decide) (σ 2) l3) rfl rfl rfl rfl rfl rfl rfl rfl rfl rfl ?_
    by_cases c3 : (jat 40 (σ 2) l3) = l2
    · rw [if_pos c3] at h
      refine hV.run 7 [0] (ws' := wX3 σ) (pc' := 30) (ls' := [(0, .ref 0), (1, .int l1), (2, .int l2), (3, .int l3)]) (st' := [.int (σ 0 7), .int l3, .ref 2]) (ps := [(jat 40 (σ 2) l3) = l2]) rfl ⟨c3, trivial⟩ ?_
      refine hV.cSv (as := [.ref 0, .int l3, .int (σ 0 7)]) (js := [2]) (rest := []) (st := [.int (σ 0 7), .int l3, .ref 2]) (ws2 := wX3 (sC σ 2 (jput 40 (σ 2) l3 (σ 0 7)))) (pc2 := 33) kX3_43 (c_put l 1 40 (by decide) (σ 2) l3 (σ 0 7)) rfl rfl rfl rfl rfl rfl rfl rfl rfl rfl ?_
      exact p_X3_close_J33 hV n res hP kont4 hk4 (sC σ 2 (jput 40 (σ 2) l3 (σ 0 7))) l1 l2 l3 h
    · rw [if_neg c3] at h
      refine hV.run 2 [1] (ws' := wX3 σ) (pc' := 33) (ls' := [(0, .ref 0), (1, .int l1), (2, .int l2), (3, .int l3)]) (st' := []) (ps := [¬ (jat 40 (σ 2) l3) = l2]) rfl ⟨c3, trivial⟩ ?_
      exact p_X3_close_J33 hV n res hP kont4 hk4 σ l1 l2 l3 h
theorem p_X3_close_L4 {l : Launch} {Post : Option Value → am_W → Prop} {V : am_VT} (hV : am_B l RX3 false 2 (am_cdT' tX3_close) (am_rfL rfX3) none Post 8 V) (n : Nat) (res : am_M) (hP : Post none (wX3 res)) : ∀ (k : Nat) (σ : am_M) (l1 : Int32) (l2 : Int32) (l3 : Int32) (h : X3_close_L4 n k σ l1 l2 l3 = some res), V (wX3 σ) 4 [(0, .ref 0), (1, .int l1), (2, .int l2), (3, .int l3)] [] := by
  intro k
  induction k with
  | zero => intro σ l1 l2 l3 h; cases h
  | succ k ih => intro σ l1 l2 l3 h; exact p_X3_close_B4 hV n res hP _ ih σ l1 l2 l3 h
def X3_close (n : Nat) (σ : am_M) (a1 : Int32) (a2 : Int32) : Option am_M := X3_close_L4 n n σ a1 a2 (a1 + 1)
set_option maxRecDepth 100000 in
set_option maxHeartbeats 4000000 in
theorem c_X3_close (l : Launch) (n : Nat) (σ : am_M) (a1 : Int32) (a2 : Int32) (res : am_M) (h : X3_close n σ a1 a2 = some res) : am_Con l yX3_close cX3_close 4 none 2 [.ref 0, .int a1, .int a2] (wX3 σ) (fun (r : Option Value) (w : am_W) => r = none ∧ w = (wX3 res)) := by
  refine am_metn (n0 := 8) (own := RX3) (cd := am_cdT' tX3_close) (rf := am_rfL rfX3) (ini := false) rfl (by decide +kernel) rfl (by decide) dX3_close rfX3_ok (Nat.le_of_ble_eq_true rfl) ?_
  intro V hV
  have hP : (fun (r : Option Value) (w : am_W) => r = none ∧ w = (wX3 res)) none (wX3 res) := ⟨rfl, rfl⟩
  show V (wX3 σ) 0 [(0, .ref 0), (1, .int a1), (2, .int a2)] []
  unfold X3_close at h
  refine hV.run 4 [] (ws' := wX3 σ) (pc' := 4) (ls' := [(3, .int (a1 + 1)), (0, .ref 0), (1, .int a1), (2, .int a2)]) (st' := []) (ps := []) rfl trivial ?_
  refine hV.pick [1, 2, 3, 0] (ls' := [(0, .ref 0), (1, .int a1), (2, .int a2), (3, .int (a1 + 1))]) rfl ?_
  exact p_X3_close_L4 hV n res hP n σ a1 a2 (a1 + 1) h

