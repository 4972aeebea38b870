def wX5 (σ : am_M) : am_W := [.inr (5, [.ref 1, .int (σ 0 1), .ref 2, .ref 3, .ref 4, .int (σ 0 5), .int (σ 0 6)]),
  .inl (0, 700, .inl (σ 1)),
  .inl (0, 701, .inl (σ 2)),
  .inl (0, 701, .inl (σ 3)),
  .inl (0, 701, .inl (σ 4))]
def X5_add_B3 (n : Nat) (kont3 : am_M → Int32 → Int32 → Option am_M) (σ : am_M) (l1 : Int32) (l2 : Int32) : Option am_M := if l2 < 0 then (some σ) else (kont3 (sC (sC σ 0 (am_u (σ 0) 1 ((σ 0 1) + 1))) 1 (jput 700 (σ 1) (σ 0 1) ((am_ushr l1 l2) &&& 255))) l1 (l2 + (-8)))
def X5_add_L3 (n : Nat) : Nat → am_M → Int32 → Int32 → Option am_M
 | 0 => fun _ _ _ => none
 | k + 1 => fun σ l1 l2 => X5_add_B3 n (X5_add_L3 n k) σ l1 l2
set_option maxRecDepth 100000 in
set_option maxHeartbeats 4000000 in
theorem p_X5_add_B3 {l : Launch} {Post : Option Value → am_W → Prop} {V : am_VT} (hV : am_B l RX5 false 2 (am_cdT' tX5_add) (am_rfL rfX5) none Post 5 V) (n : Nat) (res : am_M) (hP : Post none (wX5 res)) (kont3 : am_M → Int32 → Int32 → Option am_M) (hk3 : ∀ (σ : am_M) (l1 : Int32) (l2 : Int32), kont3 σ l1 l2 = some res → V (wX5 σ) 3 [(0, .ref 0), (1, .int l1), (2, .int l2)] []) (σ : am_M) (l1 : Int32) (l2 : Int32) (h : X5_add_B3 n kont3 σ l1 l2 = some res) : V (wX5 σ) 3 [(0, .ref 0), (1, .int l1), (2, .int l2)] [] := by
  unfold X5_add_B3 at h
  by_cases c1 : l2 < 0
  · rw [if_pos c1] at h
    refine hV.run 2 [1] (ws' := wX5 σ) (pc' := 41) (ls' := [(0, .ref 0), (1, .int l1), (2, .int l2)]) (st' := []) (ps := [l2 < 0]) rfl ⟨c1, trivial⟩ ?_
    cases h
    exact hV.rv rfl rfl rfl hP
  · rw [if_neg c1] at h
    refine hV.run 11 [0] (ws' := wX5 σ) (pc' := 22) (ls' := [(0, .ref 0), (1, .int l1), (2, .int l2)]) (st' := [.int ((am_ushr l1 l2) &&& 255), .int (σ 0 1), .ref 1]) (ps := [¬ l2 < 0]) rfl ⟨c1, trivial⟩ ?_
    refine hV.cSv (as := [.ref 0, .int (σ 0 1), .int ((am_ushr l1 l2) &&& 255)]) (js := [1]) (rest := []) (st := [.int ((am_ushr l1 l2) &&& 255), .int (σ 0 1), .ref 1]) (ws2 := wX5 (sC σ 1 (jput 700 (σ 1) (σ 0 1) ((am_ushr l1 l2) &&& 255)))) (pc2 := 25) kX5_28 (c_put l 1 700 (by decide) (σ 1) (σ 0 1) ((am_ushr l1 l2) &&& 255)) rfl rfl rfl rfl rfl rfl rfl rfl rfl rfl ?_
    refine hV.run 8 [] (ws' := wX5 (sC (sC σ 0 (am_u (σ 0) 1 ((σ 0 1) + 1))) 1 (jput 700 (σ 1) (σ 0 1) ((am_ushr l1 l2) &&& 255)))) (pc' := 3) (ls' := [(2, .int (l2 + (-8))), (0, .ref 0), (1, .int l1)]) (st' := []) (ps := []) rfl trivial ?_
    refine hV.pick [1, 2, 0] (ls' := [(0, .ref 0), (1, .int l1), (2, .int (l2 + (-8)))]) rfl ?_
    exact hk3 (sC (sC σ 0 (am_u (σ 0) 1 ((σ 0 1) + 1))) 1 (jput 700 (σ 1) (σ 0 1) ((am_ushr l1 l2) &&& 255))) l1 (l2 + (-8)) h
theorem p_X5_add_L3 {l : Launch} {Post : Option Value → am_W → Prop} {V : am_VT} (hV : am_B l RX5 false 2 (am_cdT' tX5_add) (am_rfL rfX5) none Post 5 V) (n : Nat) (res : am_M) (hP : Post none (wX5 res)) : ∀ (k : Nat) (σ : am_M) (l1 : Int32) (l2 : Int32) (h : X5_add_L3 n k σ l1 l2 = some res), V (wX5 σ) 3 [(0, .ref 0), (1, .int l1), (2, .int l2)] [] := by
  intro k
  induction k with
  | zero => intro σ l1 l2 h; cases h
  | succ k ih => intro σ l1 l2 h; exact p_X5_add_B3 hV n res hP _ ih σ l1 l2 h
def X5_add (n : Nat) (σ : am_M) (a1 : Int32) : Option am_M := X5_add_L3 n n σ a1 24
set_option maxRecDepth 100000 in
set_option maxHeartbeats 4000000 in
theorem c_X5_add (l : Launch) (n : Nat) (σ : am_M) (a1 : Int32) (res : am_M) (h : X5_add n σ a1 = some res) : am_Con l yX5_add cX5_add 3 none 2 [.ref 0, .int a1] (wX5 σ) (fun (r : Option Value) (w : am_W) => r = none ∧ w = (wX5 res)) := by
  refine am_metn (n0 := 5) (own := RX5) (cd := am_cdT' tX5_add) (rf := am_rfL rfX5) (ini := false) rfl (by decide +kernel) rfl (by decide) dX5_add rfX5_ok (Nat.le_of_ble_eq_true rfl) ?_
  intro V hV
  have hP : (fun (r : Option Value) (w : am_W) => r = none ∧ w = (wX5 res)) none (wX5 res) := ⟨rfl, rfl⟩
  show V (wX5 σ) 0 [(0, .ref 0), (1, .int a1)] []
  unfold X5_add at h
  refine hV.run 2 [] (ws' := wX5 σ) (pc' := 3) (ls' := [(2, .int 24), (0, .ref 0), (1, .int a1)]) (st' := []) (ps := []) rfl trivial ?_
  refine hV.pick [1, 2, 0] (ls' := [(0, .ref 0), (1, .int a1), (2, .int 24)]) rfl ?_
  exact p_X5_add_L3 hV n res hP n σ a1 24 h

def X5_addToken (σ : am_M) (a1 : Int32) (a2 : Int32) (a3 : Int32) : Option am_M := some (sC (sC (sC (sC σ 0 (am_u (σ 0) 5 ((σ 0 5) + 1))) 2 (jput 701 (σ 2) (σ 0 5) a1)) 3 (jput 701 (σ 3) (σ 0 5) a2)) 4 (jput 701 (σ 4) (σ 0 5) a3))
set_option maxRecDepth 100000 in
set_option maxHeartbeats 4000000 in
theorem c_X5_addToken (l : Launch) (σ : am_M) (a1 : Int32) (a2 : Int32) (a3 : Int32) (res : am_M) (h : X5_addToken σ a1 a2 a3 = some res) : am_Con l yX5_addToken cX5_addToken 4 none 2 [.ref 0, .int a1, .int a2, .int a3] (wX5 σ) (fun (r : Option Value) (w : am_W) => r = none ∧ w = (wX5 res)) := by
  refine am_metn (n0 := 5) (own := RX5) (cd := am_cdT' tX5_addToken) (rf := am_rfL rfX5) (ini := false) rfl (by decide +kernel) rfl (by decide) dX5_addToken rfX5_ok (Nat.le_of_ble_eq_true rfl) ?_
  intro V hV
  have hP : (fun (r : Option Value) (w : am_W) => r = none ∧ w = (wX5 res)) none (wX5 res) := ⟨rfl, rfl⟩
  show V (wX5 σ) 0 [(0, .ref 0), (1, .int a1), (2, .int a2), (3, .int a3)] []
  unfold X5_addToken at h
  refine hV.run 5 [] (ws' := wX5 σ) (pc' := 9) (ls' := [(0, .ref 0), (1, .int a1), (2, .int a2), (3, .int a3)]) (st' := [.int a1, .int (σ 0 5), .ref 2]) (ps := []) rfl trivial ?_
  refine hV.cSv (as := [.ref 0, .int (σ 0 5), .int a1]) (js := [2]) (rest := []) (st := [.int a1, .int (σ 0 5), .ref 2]) (ws2 := wX5 (sC σ 2 (jput 701 (σ 2) (σ 0 5) a1))) (pc2 := 12) kX5_28 (c_put l 1 701 (by decide) (σ 2) (σ 0 5) a1) rfl rfl rfl rfl rfl rfl rfl rfl rfl rfl ?_
  refine hV.run 5 [] (ws' := wX5 (sC σ 2 (jput 701 (σ 2) (σ 0 5) a1))) (pc' := 21) (ls' := [(0, .ref 0), (1, .int a1), (2, .int a2), (3, .int a3)]) (st' := [.int a2, .int (σ 0 5), .ref 3]) (ps := []) rfl trivial ?_
  refine hV.cSv (as := [.ref 0, .int (σ 0 5), .int a2]) (js := [3]) (rest := []) (st := [.int a2, .int (σ 0 5), .ref 3]) (ws2 := wX5 (sC (sC σ 2 (jput 701 (σ 2) (σ 0 5) a1)) 3 (jput 701 (σ 3) (σ 0 5) a2))) (pc2 := 24) kX5_28 (c_put l 1 701 (by decide) (σ 3) (σ 0 5) a2) rfl rfl rfl rfl rfl rfl rfl rfl rfl rfl ?_
  refine hV.run 5 [] (ws' := wX5 (sC (sC σ 2 (jput 701 (σ 2) (σ 0 5) a1)) 3 (jput 701 (σ 3) (σ 0 5) a2))) (pc' := 33) (ls' := [(0, .ref 0), (1, .int a1), (2, .int a2), (3, .int a3)]) (st' := [.int a3, .int (σ 0 5), .ref 4]) (ps := []) rfl trivial ?_
  refine hV.cSv (as := [.ref 0, .int (σ 0 5), .int a3]) (js := [4]) (rest := []) (st := [.int a3, .int (σ 0 5), .ref 4]) (ws2 := wX5 (sC (sC (sC σ 2 (jput 701 (σ 2) (σ 0 5) a1)) 3 (jput 701 (σ 3) (σ 0 5) a2)) 4 (jput 701 (σ 4) (σ 0 5) a3))) (pc2 := 36) kX5_28 (c_put l 1 701 (by decide) (σ 4) (σ 0 5) a3) rfl rfl rfl rfl rfl rfl rfl rfl rfl rfl ?_
  refine hV.run 6 [] (ws' := wX5 (sC (sC (sC (sC σ 0 (am_u (σ 0) 5 ((σ 0 5) + 1))) 2 (jput 701 (σ 2) (σ 0 5) a1)) 3 (jput 701 (σ 3) (σ 0 5) a2)) 4 (jput 701 (σ 4) (σ 0 5) a3))) (pc' := 46) (ls' := [(0, .ref 0), (1, .int a1), (2, .int a2), (3, .int a3)]) (st' := []) (ps := []) rfl trivial ?_
  cases h
  exact hV.rv rfl rfl rfl hP

def X5_isBlank (σ : am_M) (a1 : Int32) : Bool := if (jat 700 (σ 1) a1) = 32 then (true) else (if (jat 700 (σ 1) a1) = 10 then (true) else (false))
set_option maxRecDepth 100000 in
set_option maxHeartbeats 4000000 in
theorem c_X5_isBlank (l : Launch) (σ : am_M) (a1 : Int32) : am_Con l yX5_isBlank cX5_isBlank 3 (some .boolean) 2 [.ref 0, .int a1] (wX5 σ) (fun (r : Option Value) (w : am_W) => r = (some (.int (b2i (X5_isBlank σ a1)))) ∧ w = (wX5 σ)) := by
  obtain ⟨res, h⟩ : ∃ res, (X5_isBlank σ a1) = res := ⟨_, rfl⟩
  rw [h]
  refine am_metn (n0 := 5) (own := RX5) (cd := am_cdT' tX5_isBlank) (rf := am_rfL rfX5) (ini := false) rfl (by decide +kernel) rfl (by decide) dX5_isBlank rfX5_ok (Nat.le_of_ble_eq_true rfl) ?_
  intro V hV
  have hP : (fun (r : Option Value) (w : am_W) => r = (some (.int (b2i res))) ∧ w = (wX5 σ)) (some (.int (b2i res))) (wX5 σ) := ⟨rfl, rfl⟩
  show V (wX5 σ) 0 [(0, .ref 0), (1, .int a1)] []
  unfold X5_isBlank at h
  refine hV.run 3 [] (ws' := wX5 σ) (pc' := 5) (ls' := [(0, .ref 0), (1, .int a1)]) (st' := [.int a1, .ref 1]) (ps := []) rfl trivial ?_
  refine hV.cSi (as := [.ref 0, .int a1]) (js := [1]) (rest := []) (st := [.int a1, .ref 1]) (ws2 := wX5 σ) (pc2 := 8) kX5_56 (c_at l 1 700 (by decide) (σ 1) a1) rfl rfl rfl rfl rfl rfl rfl rfl rfl rfl ?_
  by_cases c1 : (jat 700 (σ 1) a1) = 32
  · rw [if_pos c1] at h
    refine hV.run 6 [1] (ws' := wX5 σ) (pc' := 26) (ls' := [(2, .int (jat 700 (σ 1) a1)), (0, .ref 0), (1, .int a1)]) (st' := [.int 1]) (ps := [(jat 700 (σ 1) a1) = 32]) rfl ⟨c1, trivial⟩ ?_
    subst h
    exact hV.rz rfl rfl rfl (Or.inr rfl) hP
  · rw [if_neg c1] at h
    by_cases c2 : (jat 700 (σ 1) a1) = 10
    · rw [if_pos c2] at h
      refine hV.run 9 [0, 0] (ws' := wX5 σ) (pc' := 26) (ls' := [(2, .int (jat 700 (σ 1) a1)), (0, .ref 0), (1, .int a1)]) (st' := [.int 1]) (ps := [¬ (jat 700 (σ 1) a1) = 32, (jat 700 (σ 1) a1) = 10]) rfl ⟨c1, c2, trivial⟩ ?_
      subst h
      exact hV.rz rfl rfl rfl (Or.inr rfl) hP
    · rw [if_neg c2] at h
      refine hV.run 8 [0, 1] (ws' := wX5 σ) (pc' := 26) (ls' := [(2, .int (jat 700 (σ 1) a1)), (0, .ref 0), (1, .int a1)]) (st' := [.int 0]) (ps := [¬ (jat 700 (σ 1) a1) = 32, ¬ (jat 700 (σ 1) a1) = 10]) rfl ⟨c1, c2, trivial⟩ ?_
      subst h
      exact hV.rz rfl rfl rfl (Or.inl rfl) hP

def X5_classOf_J23 (σ : am_M) (l2 : Int32) : Int32 := if l2 < 48 then (3) else (if 57 < l2 then (3) else (2))
set_option maxRecDepth 100000 in
set_option maxHeartbeats 4000000 in
theorem p_X5_classOf_J23 {l : Launch} {Post : Option Value → am_W → Prop} {V : am_VT} (hV : am_B l RX5 false 2 (am_cdT' tX5_classOf) (am_rfL rfX5) (some .int) Post 5 V) (σ : am_M) (res : Int32) (hP : Post (some (.int res)) (wX5 σ)) (l2 : Int32) (h : X5_classOf_J23 σ l2 = res) : V (wX5 σ) 23 [(2, .int l2)] [] := by
  unfold X5_classOf_J23 at h
  by_cases c1 : l2 < 48
  · rw [if_pos c1] at h
    refine hV.run 4 [1] (ws' := wX5 σ) (pc' := 40) (ls' := [(2, .int l2)]) (st' := [.int 3]) (ps := [l2 < 48]) rfl ⟨c1, trivial⟩ ?_
    subst h
    exact hV.ri rfl rfl rfl hP
  · rw [if_neg c1] at h
    by_cases c2 : 57 < l2
    · rw [if_pos c2] at h
      refine hV.run 7 [0, 1] (ws' := wX5 σ) (pc' := 40) (ls' := [(2, .int l2)]) (st' := [.int 3]) (ps := [¬ l2 < 48, 57 < l2]) rfl ⟨c1, c2, trivial⟩ ?_
      subst h
      exact hV.ri rfl rfl rfl hP
    · rw [if_neg c2] at h
      refine hV.run 8 [0, 0] (ws' := wX5 σ) (pc' := 40) (ls' := [(2, .int l2)]) (st' := [.int 2]) (ps := [¬ l2 < 48, ¬ 57 < l2]) rfl ⟨c1, c2, trivial⟩ ?_
      subst h
      exact hV.ri rfl rfl rfl hP
def X5_classOf (σ : am_M) (a1 : Int32) : Int32 := if (jat 700 (σ 1) a1) < 97 then (X5_classOf_J23 σ (jat 700 (σ 1) a1)) else (if 122 < (jat 700 (σ 1) a1) then (X5_classOf_J23 σ (jat 700 (σ 1) a1)) else (1))
set_option maxRecDepth 100000 in
set_option maxHeartbeats 4000000 in
theorem c_X5_classOf (l : Launch) (σ : am_M) (a1 : Int32) : am_Con l yX5_classOf cX5_classOf 3 (some .int) 2 [.ref 0, .int a1] (wX5 σ) (fun (r : Option Value) (w : am_W) => r = (some (.int (X5_classOf σ a1))) ∧ w = (wX5 σ)) := by
  obtain ⟨res, h⟩ : ∃ res, (X5_classOf σ a1) = res := ⟨_, rfl⟩
  rw [h]
  refine am_metn (n0 := 5) (own := RX5) (cd := am_cdT' tX5_classOf) (rf := am_rfL rfX5) (ini := false) rfl (by decide +kernel) rfl (by decide) dX5_classOf rfX5_ok (Nat.le_of_ble_eq_true rfl) ?_
  intro V hV
  have hP : (fun (r : Option Value) (w : am_W) => r = (some (.int res)) ∧ w = (wX5 σ)) (some (.int res)) (wX5 σ) := ⟨rfl, rfl⟩
  show V (wX5 σ) 0 [(0, .ref 0), (1, .int a1)] []
  unfold X5_classOf at h
  refine hV.run 3 [] (ws' := wX5 σ) (pc' := 5) (ls' := [(0, .ref 0), (1, .int a1)]) (st' := [.int a1, .ref 1]) (ps := []) rfl trivial ?_
  refine hV.cSi (as := [.ref 0, .int a1]) (js := [1]) (rest := []) (st := [.int a1, .ref 1]) (ws2 := wX5 σ) (pc2 := 8) kX5_56 (c_at l 1 700 (by decide) (σ 1) a1) rfl rfl rfl rfl rfl rfl rfl rfl rfl rfl ?_
  by_cases c1 : (jat 700 (σ 1) a1) < 97
  · rw [if_pos c1] at h
    refine hV.run 4 [1] (ws' := wX5 σ) (pc' := 23) (ls' := [(2, .int (jat 700 (σ 1) a1)), (0, .ref 0), (1, .int a1)]) (st' := []) (ps := [(jat 700 (σ 1) a1) < 97]) rfl ⟨c1, trivial⟩ ?_
    refine hV.pick [0] (ls' := [(2, .int (jat 700 (σ 1) a1))]) rfl ?_
    exact p_X5_classOf_J23 hV σ res hP (jat 700 (σ 1) a1) h
  · rw [if_neg c1] at h
    by_cases c2 : 122 < (jat 700 (σ 1) a1)
    · rw [if_pos c2] at h
      refine hV.run 7 [0, 1] (ws' := wX5 σ) (pc' := 23) (ls' := [(2, .int (jat 700 (σ 1) a1)), (0, .ref 0), (1, .int a1)]) (st' := []) (ps := [¬ (jat 700 (σ 1) a1) < 97, 122 < (jat 700 (σ 1) a1)]) rfl ⟨c1, c2, trivial⟩ ?_
      refine hV.pick [0] (ls' := [(2, .int (jat 700 (σ 1) a1))]) rfl ?_
      exact p_X5_classOf_J23 hV σ res hP (jat 700 (σ 1) a1) h
    · rw [if_neg c2] at h
      refine hV.run 8 [0, 0] (ws' := wX5 σ) (pc' := 22) (ls' := [(2, .int (jat 700 (σ 1) a1)), (0, .ref 0), (1, .int a1)]) (st' := [.int 1]) (ps := [¬ (jat 700 (σ 1) a1) < 97, ¬ 122 < (jat 700 (σ 1) a1)]) rfl ⟨c1, c2, trivial⟩ ?_
      subst h
      exact hV.ri rfl rfl rfl hP

def X5_endOf_B11 (n : Nat) (σ : am_M) (kont11 : Int32 → Int32 → Int32 → Option Int32) (l2 : Int32) (l3 : Int32) (l4 : Int32) : Option Int32 := if l2 ≤ l4 then (some l4) else (if l3 = 3 then (some l4) else (if (X5_classOf σ l4) = l3 then (kont11 l2 l3 (l4 + 1)) else (some l4)))
def X5_endOf_L11 (n : Nat) (σ : am_M) : Nat → Int32 → Int32 → Int32 → Option Int32
 | 0 => fun _ _ _ => none
 | k + 1 => fun l2 l3 l4 => X5_endOf_B11 n σ (X5_endOf_L11 n σ k) l2 l3 l4
set_option maxRecDepth 100000 in
set_option maxHeartbeats 4000000 in
theorem p_X5_endOf_B11 {l : Launch} {Post : Option Value → am_W → Prop} {V : am_VT} (hV : am_B l RX5 false 3 (am_cdT' tX5_endOf) (am_rfL rfX5) (some .int) Post 5 V) (n : Nat) (σ : am_M) (res : Int32) (hP : Post (some (.int res)) (wX5 σ)) (kont11 : Int32 → Int32 → Int32 → Option Int32) (hk11 : ∀ (l2 : Int32) (l3 : Int32) (l4 : Int32), kont11 l2 l3 l4 = some res → V (wX5 σ) 11 [(0, .ref 0), (2, .int l2), (3, .int l3), (4, .int l4)] []) (l2 : Int32) (l3 : Int32) (l4 : Int32) (h : X5_endOf_B11 n σ kont11 l2 l3 l4 = some res) : V (wX5 σ) 11 [(0, .ref 0), (2, .int l2), (3, .int l3), (4, .int l4)] [] := by
  unfold X5_endOf_B11 at h
  by_cases c1 : l2 ≤ l4
  · rw [if_pos c1] at h
    refine hV.run 4 [1] (ws' := wX5 σ) (pc' := 40) (ls' := [(0, .ref 0), (2, .int l2), (3, .int l3), (4, .int l4)]) (st' := [.int l4]) (ps := [l2 ≤ l4]) rfl ⟨c1, trivial⟩ ?_
    cases h
    exact hV.ri rfl rfl rfl hP
  · rw [if_neg c1] at h
    by_cases c2 : l3 = 3
    · rw [if_pos c2] at h
      refine hV.run 7 [0, 1] (ws' := wX5 σ) (pc' := 40) (ls' := [(0, .ref 0), (2, .int l2), (3, .int l3), (4, .int l4)]) (st' := [.int l4]) (ps := [¬ l2 ≤ l4, l3 = 3]) rfl ⟨c1, c2, trivial⟩ ?_
      cases h
      exact hV.ri rfl rfl rfl hP
    · rw [if_neg c2] at h
      refine hV.run 8 [0, 0] (ws' := wX5 σ) (pc' := 25) (ls' := [(0, .ref 0), (2, .int l2), (3, .int l3), (4, .int l4)]) (st' := [.int l4, .ref 0]) (ps := [¬ l2 ≤ l4, ¬ l3 = 3]) rfl ⟨c1, c2, trivial⟩ ?_
      refine hV.cOi (as := [.int l4]) (rest := []) (st := [.int l4, .ref 0]) (ws2 := wX5 σ) (pc2 := 28) kX5_60 (c_X5_classOf l σ l4) rfl rfl rfl rfl rfl rfl rfl rfl rfl ?_
      by_cases c3 : (X5_classOf σ l4) = l3
      · rw [if_pos c3] at h
        refine hV.run 4 [0] (ws' := wX5 σ) (pc' := 11) (ls' := [(4, .int (l4 + 1)), (0, .ref 0), (2, .int l2), (3, .int l3)]) (st' := []) (ps := [(X5_classOf σ l4) = l3]) rfl ⟨c3, trivial⟩ ?_
        refine hV.pick [1, 2, 3, 0] (ls' := [(0, .ref 0), (2, .int l2), (3, .int l3), (4, .int (l4 + 1))]) rfl ?_
        exact hk11 l2 l3 (l4 + 1) h
      · rw [if_neg c3] at h
        refine hV.run 3 [1] (ws' := wX5 σ) (pc' := 40) (ls' := [(0, .ref 0), (2, .int l2), (3, .int l3), (4, .int l4)]) (st' := [.int l4]) (ps := [¬ (X5_classOf σ l4) = l3]) rfl ⟨c3, trivial⟩ ?_
        cases h
        exact hV.ri rfl rfl rfl hP
theorem p_X5_endOf_L11 {l : Launch} {Post : Option Value → am_W → Prop} {V : am_VT} (hV : am_B l RX5 false 3 (am_cdT' tX5_endOf) (am_rfL rfX5) (some .int) Post 5 V) (n : Nat) (σ : am_M) (res : Int32) (hP : Post (some (.int res)) (wX5 σ)) : ∀ (k : Nat) (l2 : Int32) (l3 : Int32) (l4 : Int32) (h : X5_endOf_L11 n σ k l2 l3 l4 = some res), V (wX5 σ) 11 [(0, .ref 0), (2, .int l2), (3, .int l3), (4, .int l4)] [] := by
  intro k
  induction k with
  | zero => intro l2 l3 l4 h; cases h
  | succ k ih => intro l2 l3 l4 h; exact p_X5_endOf_B11 hV n σ res hP _ ih l2 l3 l4 h
def X5_endOf (n : Nat) (σ : am_M) (a1 : Int32) (a2 : Int32) : Option Int32 := X5_endOf_L11 n σ n a2 (X5_classOf σ a1) (a1 + 1)
set_option maxRecDepth 100000 in
set_option maxHeartbeats 4000000 in
theorem c_X5_endOf (l : Launch) (n : Nat) (σ : am_M) (a1 : Int32) (a2 : Int32) (res : Int32) (h : X5_endOf n σ a1 a2 = some res) : am_Con l yX5_endOf cX5_endOf 5 (some .int) 3 [.ref 0, .int a1, .int a2] (wX5 σ) (fun (r : Option Value) (w : am_W) => r = (some (.int res)) ∧ w = (wX5 σ)) := by
  refine am_metn (n0 := 5) (own := RX5) (cd := am_cdT' tX5_endOf) (rf := am_rfL rfX5) (ini := false) rfl (by decide +kernel) rfl (by decide) dX5_endOf rfX5_ok (Nat.le_of_ble_eq_true rfl) ?_
  intro V hV
  have hP : (fun (r : Option Value) (w : am_W) => r = (some (.int res)) ∧ w = (wX5 σ)) (some (.int res)) (wX5 σ) := ⟨rfl, rfl⟩
  show V (wX5 σ) 0 [(0, .ref 0), (1, .int a1), (2, .int a2)] []
  unfold X5_endOf at h
  refine hV.run 2 [] (ws' := wX5 σ) (pc' := 2) (ls' := [(0, .ref 0), (1, .int a1), (2, .int a2)]) (st' := [.int a1, .ref 0]) (ps := []) rfl trivial ?_
  refine hV.cOi (as := [.int a1]) (rest := []) (st := [.int a1, .ref 0]) (ws2 := wX5 σ) (pc2 := 5) kX5_60 (c_X5_classOf l σ a1) rfl rfl rfl rfl rfl rfl rfl rfl rfl ?_
  refine hV.run 5 [] (ws' := wX5 σ) (pc' := 11) (ls' := [(4, .int (a1 + 1)), (3, .int (X5_classOf σ a1)), (0, .ref 0), (1, .int a1), (2, .int a2)]) (st' := []) (ps := []) rfl trivial ?_
  refine hV.pick [2, 4, 1, 0] (ls' := [(0, .ref 0), (2, .int a2), (3, .int (X5_classOf σ a1)), (4, .int (a1 + 1))]) rfl ?_
  exact p_X5_endOf_L11 hV n σ res hP n a2 (X5_classOf σ a1) (a1 + 1) h

def X5_numberOf_B25 (n : Nat) (σ : am_M) (kont25 : Int32 → Int32 → Int32 → Option Int32) (l2 : Int32) (l3 : Int32) (l4 : Int32) : Option Int32 := if l2 ≤ l4 then (some l3) else (kont25 l2 (((l3 * 10) + (jat 700 (σ 1) l4)) - 48) (l4 + 1))
def X5_numberOf_L25 (n : Nat) (σ : am_M) : Nat → Int32 → Int32 → Int32 → Option Int32
 | 0 => fun _ _ _ => none
 | k + 1 => fun l2 l3 l4 => X5_numberOf_B25 n σ (X5_numberOf_L25 n σ k) l2 l3 l4
set_option maxRecDepth 100000 in
set_option maxHeartbeats 4000000 in
theorem p_X5_numberOf_B25 {l : Launch} {Post : Option Value → am_W → Prop} {V : am_VT} (hV : am_B l RX5 false 3 (am_cdT' tX5_numberOf) (am_rfL rfX5) (some .int) Post 5 V) (n : Nat) (σ : am_M) (res : Int32) (hP : Post (some (.int res)) (wX5 σ)) (kont25 : Int32 → Int32 → Int32 → Option Int32) (hk25 : ∀ (l2 : Int32) (l3 : Int32) (l4 : Int32), kont25 l2 l3 l4 = some res → V (wX5 σ) 25 [(0, .ref 0), (2, .int l2), (3, .int l3), (4, .int l4)] []) (l2 : Int32) (l3 : Int32) (l4 : Int32) (h : X5_numberOf_B25 n σ kont25 l2 l3 l4 = some res) : V (wX5 σ) 25 [(0, .ref 0), (2, .int l2), (3, .int l3), (4, .int l4)] [] := by
  unfold X5_numberOf_B25 at h
  by_cases c1 : l2 ≤ l4
  · rw [if_pos c1] at h
    refine hV.run 4 [1] (ws' := wX5 σ) (pc' := 56) (ls' := [(0, .ref 0), (2, .int l2), (3, .int l3), (4, .int l4)]) (st' := [.int l3]) (ps := [l2 ≤ l4]) rfl ⟨c1, trivial⟩ ?_
    cases h
    exact hV.ri rfl rfl rfl hP
  · rw [if_neg c1] at h
    refine hV.run 9 [0] (ws' := wX5 σ) (pc' := 41) (ls' := [(0, .ref 0), (2, .int l2), (3, .int l3), (4, .int l4)]) (st' := [.int l4, .ref 1, .int (l3 * 10)]) (ps := [¬ l2 ≤ l4]) rfl ⟨c1, trivial⟩ ?_
    refine hV.cSi (as := [.ref 0, .int l4]) (js := [1]) (rest := [.int (l3 * 10)]) (st := [.int l4, .ref 1, .int (l3 * 10)]) (ws2 := wX5 σ) (pc2 := 44) kX5_56 (c_at l 1 700 (by decide) (σ 1) l4) rfl rfl rfl rfl rfl rfl rfl rfl rfl rfl ?_
    refine hV.run 6 [] (ws' := wX5 σ) (pc' := 25) (ls' := [(4, .int (l4 + 1)), (3, .int (((l3 * 10) + (jat 700 (σ 1) l4)) - 48)), (0, .ref 0), (2, .int l2)]) (st' := []) (ps := []) rfl trivial ?_
    refine hV.pick [2, 3, 1, 0] (ls' := [(0, .ref 0), (2, .int l2), (3, .int (((l3 * 10) + (jat 700 (σ 1) l4)) - 48)), (4, .int (l4 + 1))]) rfl ?_
    exact hk25 l2 (((l3 * 10) + (jat 700 (σ 1) l4)) - 48) (l4 + 1) h
theorem p_X5_numberOf_L25 {l : Launch} {Post : Option Value → am_W → Prop} {V : am_VT} (hV : am_B l RX5 false 3 (am_cdT' tX5_numberOf) (am_rfL rfX5) (some .int) Post 5 V) (n : Nat) (σ : am_M) (res : Int32) (hP : Post (some (.int res)) (wX5 σ)) : ∀ (k : Nat) (l2 : Int32) (l3 : Int32) (l4 : Int32) (h : X5_numberOf_L25 n σ k l2 l3 l4 = some res), V (wX5 σ) 25 [(0, .ref 0), (2, .int l2), (3, .int l3), (4, .int l4)] [] := by
  intro k
  induction k with
  | zero => intro l2 l3 l4 h; cases h
  | succ k ih => intro l2 l3 l4 h; exact p_X5_numberOf_B25 hV n σ res hP _ ih l2 l3 l4 h
def X5_numberOf (n : Nat) (σ : am_M) (a1 : Int32) (a2 : Int32) : Option Int32 := if (X5_classOf σ a1) = 2 then (if (a2 - a1) ≤ 4 then (X5_numberOf_L25 n σ n a2 0 a1) else (some (-1))) else (some 0)
set_option maxRecDepth 100000 in
set_option maxHeartbeats 4000000 in
theorem c_X5_numberOf (l : Launch) (n : Nat) (σ : am_M) (a1 : Int32) (a2 : Int32) (res : Int32) (h : X5_numberOf n σ a1 a2 = some res) : am_Con l yX5_numberOf cX5_numberOf 5 (some .int) 3 [.ref 0, .int a1, .int a2] (wX5 σ) (fun (r : Option Value) (w : am_W) => r = (some (.int res)) ∧ w = (wX5 σ)) := by
  refine am_metn (n0 := 5) (own := RX5) (cd := am_cdT' tX5_numberOf) (rf := am_rfL rfX5) (ini := false) rfl (by decide +kernel) rfl (by decide) dX5_numberOf rfX5_ok (Nat.le_of_ble_eq_true rfl) ?_
  intro V hV
  have hP : (fun (r : Option Value) (w : am_W) => r = (some (.int res)) ∧ w = (wX5 σ)) (some (.int res)) (wX5 σ) := ⟨rfl, rfl⟩
  show V (wX5 σ) 0 [(0, .ref 0), (1, .int a1), (2, .int a2)] []
  unfold X5_numberOf at h
  refine hV.run 2 [] (ws' := wX5 σ) (pc' := 2) (ls' := [(0, .ref 0), (1, .int a1), (2, .int a2)]) (st' := [.int a1, .ref 0]) (ps := []) rfl trivial ?_
  refine hV.cOi (as := [.int a1]) (rest := []) (st := [.int a1, .ref 0]) (ws2 := wX5 σ) (pc2 := 5) kX5_60 (c_X5_classOf l σ a1) rfl rfl rfl rfl rfl rfl rfl rfl rfl ?_
  by_cases c1 : (X5_classOf σ a1) = 2
  · rw [if_pos c1] at h
    by_cases c2 : (a2 - a1) ≤ 4
    · rw [if_pos c2] at h
      refine hV.run 11 [1, 1] (ws' := wX5 σ) (pc' := 25) (ls' := [(4, .int a1), (3, .int 0), (0, .ref 0), (1, .int a1), (2, .int a2)]) (st' := []) (ps := [(X5_classOf σ a1) = 2, (a2 - a1) ≤ 4]) rfl ⟨c1, c2, trivial⟩ ?_
      refine hV.pick [2, 4, 1, 0] (ls' := [(0, .ref 0), (2, .int a2), (3, .int 0), (4, .int a1)]) rfl ?_
      exact p_X5_numberOf_L25 hV n σ res hP n a2 0 a1 h
    · rw [if_neg c2] at h
      refine hV.run 8 [1, 0] (ws' := wX5 σ) (pc' := 19) (ls' := [(0, .ref 0), (1, .int a1), (2, .int a2)]) (st' := [.int (-1)]) (ps := [(X5_classOf σ a1) = 2, ¬ (a2 - a1) ≤ 4]) rfl ⟨c1, c2, trivial⟩ ?_
      cases h
      exact hV.ri rfl rfl rfl hP
  · rw [if_neg c1] at h
    refine hV.run 3 [0] (ws' := wX5 σ) (pc' := 10) (ls' := [(0, .ref 0), (1, .int a1), (2, .int a2)]) (st' := [.int 0]) (ps := [¬ (X5_classOf σ a1) = 2]) rfl ⟨c1, trivial⟩ ?_
    cases h
    exact hV.ri rfl rfl rfl hP

def X5_sort (σ : am_M) : Int32 := (jat 701 (σ 2) (σ 0 6))
set_option maxRecDepth 100000 in
set_option maxHeartbeats 4000000 in
theorem c_X5_sort (l : Launch) (σ : am_M) : am_Con l yX5_sort cX5_sort 1 (some .int) 2 [.ref 0] (wX5 σ) (fun (r : Option Value) (w : am_W) => r = (some (.int (X5_sort σ))) ∧ w = (wX5 σ)) := by
  obtain ⟨res, h⟩ : ∃ res, (X5_sort σ) = res := ⟨_, rfl⟩
  rw [h]
  refine am_metn (n0 := 5) (own := RX5) (cd := am_cdT' tX5_sort) (rf := am_rfL rfX5) (ini := false) rfl (by decide +kernel) rfl (by decide) dX5_sort rfX5_ok (Nat.le_of_ble_eq_true rfl) ?_
  intro V hV
  have hP : (fun (r : Option Value) (w : am_W) => r = (some (.int res)) ∧ w = (wX5 σ)) (some (.int res)) (wX5 σ) := ⟨rfl, rfl⟩
  show V (wX5 σ) 0 [(0, .ref 0)] []
  unfold X5_sort at h
  refine hV.run 4 [] (ws' := wX5 σ) (pc' := 8) (ls' := [(0, .ref 0)]) (st' := [.int (σ 0 6), .ref 2]) (ps := []) rfl trivial ?_
  refine hV.cSi (as := [.ref 0, .int (σ 0 6)]) (js := [2]) (rest := []) (st := [.int (σ 0 6), .ref 2]) (ws2 := wX5 σ) (pc2 := 11) kX5_56 (c_at l 1 701 (by decide) (σ 2) (σ 0 6)) rfl rfl rfl rfl rfl rfl rfl rfl rfl rfl ?_
  subst h
  exact hV.ri rfl rfl rfl hP

def X5_number (σ : am_M) : Int32 := (jat 701 (σ 4) (σ 0 6))
set_option maxRecDepth 100000 in
set_option maxHeartbeats 4000000 in
theorem c_X5_number (l : Launch) (σ : am_M) : am_Con l yX5_number cX5_number 1 (some .int) 2 [.ref 0] (wX5 σ) (fun (r : Option Value) (w : am_W) => r = (some (.int (X5_number σ))) ∧ w = (wX5 σ)) := by
  obtain ⟨res, h⟩ : ∃ res, (X5_number σ) = res := ⟨_, rfl⟩
  rw [h]
  refine am_metn (n0 := 5) (own := RX5) (cd := am_cdT' tX5_number) (rf := am_rfL rfX5) (ini := false) rfl (by decide +kernel) rfl (by decide) dX5_number rfX5_ok (Nat.le_of_ble_eq_true rfl) ?_
  intro V hV
  have hP : (fun (r : Option Value) (w : am_W) => r = (some (.int res)) ∧ w = (wX5 σ)) (some (.int res)) (wX5 σ) := ⟨rfl, rfl⟩
  show V (wX5 σ) 0 [(0, .ref 0)] []
  unfold X5_number at h
  refine hV.run 4 [] (ws' := wX5 σ) (pc' := 8) (ls' := [(0, .ref 0)]) (st' := [.int (σ 0 6), .ref 4]) (ps := []) rfl trivial ?_
  refine hV.cSi (as := [.ref 0, .int (σ 0 6)]) (js := [4]) (rest := []) (st := [.int (σ 0 6), .ref 4]) (ws2 := wX5 σ) (pc2 := 11) kX5_56 (c_at l 1 701 (by decide) (σ 4) (σ 0 6)) rfl rfl rfl rfl rfl rfl rfl rfl rfl rfl ?_
  subst h
  exact hV.ri rfl rfl rfl hP

def X5_advance (σ : am_M) : Option am_M := if ((σ 0 5) - 1) ≤ (σ 0 6) then (some σ) else (some (sC σ 0 (am_u (σ 0) 6 ((σ 0 6) + 1))))
set_option maxRecDepth 100000 in
set_option maxHeartbeats 4000000 in
theorem c_X5_advance (l : Launch) (σ : am_M) (res : am_M) (h : X5_advance σ = some res) : am_Con l yX5_advance cX5_advance 1 none 1 [.ref 0] (wX5 σ) (fun (r : Option Value) (w : am_W) => r = none ∧ w = (wX5 res)) := by
  refine am_metn (n0 := 5) (own := RX5) (cd := am_cdT' tX5_advance) (rf := am_rfL rfX5) (ini := false) rfl (by decide +kernel) rfl (by decide) dX5_advance rfX5_ok (Nat.le_of_ble_eq_true rfl) ?_
  intro V hV
  have hP : (fun (r : Option Value) (w : am_W) => r = none ∧ w = (wX5 res)) none (wX5 res) := ⟨rfl, rfl⟩
  show V (wX5 σ) 0 [(0, .ref 0)] []
  unfold X5_advance at h
  by_cases c1 : ((σ 0 5) - 1) ≤ (σ 0 6)
  · rw [if_pos c1] at h
    refine hV.run 7 [1] (ws' := wX5 σ) (pc' := 23) (ls' := [(0, .ref 0)]) (st' := []) (ps := [((σ 0 5) - 1) ≤ (σ 0 6)]) rfl ⟨c1, trivial⟩ ?_
    cases h
    exact hV.rv rfl rfl rfl hP
  · rw [if_neg c1] at h
    refine hV.run 13 [0] (ws' := wX5 (sC σ 0 (am_u (σ 0) 6 ((σ 0 6) + 1)))) (pc' := 23) (ls' := [(0, .ref 0)]) (st' := []) (ps := [¬ ((σ 0 5) - 1) ≤ (σ 0 6)]) rfl ⟨c1, trivial⟩ ?_
    cases h
    exact hV.rv rfl rfl rfl hP

def X5_matches_B3 (n : Nat) (σ : am_M) (kont3 : Int32 → Int32 → Int32 → Int32 → Option Bool) (l1 : Int32) (l2 : Int32) (l3 : Int32) (l4 : Int32) : Option Bool := if l4 < 0 then (some true) else (if l3 ≤ l4 then (some true) else (if (am_slen 0) ≤ l4 then (some true) else (if l4 < 0 then none else (if ¬ l4 < am_slen 0 then none else (if (am_sch 0 l4) = (jat 700 (σ 1) ((l1 + l4) - l2)) then (kont3 l1 l2 l3 (l4 + 1)) else (some false))))))
def X5_matches_L3 (n : Nat) (σ : am_M) : Nat → Int32 → Int32 → Int32 → Int32 → Option Bool
 | 0 => fun _ _ _ _ => none
 | k + 1 => fun l1 l2 l3 l4 => X5_matches_B3 n σ (X5_matches_L3 n σ k) l1 l2 l3 l4
set_option maxRecDepth 100000 in
set_option maxHeartbeats 4000000 in
theorem p_X5_matches_B3 {l : Launch} {Post : Option Value → am_W → Prop} {V : am_VT} (hV : am_B l RX5 false 5 (am_cdT' tX5_matches) (am_rfL rfX5) (some .boolean) Post 5 V) (n : Nat) (σ : am_M) (res : Bool) (hP : Post (some (.int (b2i res))) (wX5 σ)) (kont3 : Int32 → Int32 → Int32 → Int32 → Option Bool) (hk3 : ∀ (l1 : Int32) (l2 : Int32) (l3 : Int32) (l4 : Int32), kont3 l1 l2 l3 l4 = some res → V (wX5 σ) 3 [(0, .ref 0), (1, .int l1), (2, .int l2), (3, .int l3), (4, .int l4)] []) (l1 : Int32) (l2 : Int32) (l3 : Int32) (l4 : Int32) (h : X5_matches_B3 n σ kont3 l1 l2 l3 l4 = some res) : V (wX5 σ) 3 [(0, .ref 0), (1, .int l1), (2, .int l2), (3, .int l3), (4, .int l4)] [] := by
  unfold X5_matches_B3 at h
  by_cases c1 : l4 < 0
  · rw [if_pos c1] at h
    refine hV.run 3 [1] (ws' := wX5 σ) (pc' := 56) (ls' := [(0, .ref 0), (1, .int l1), (2, .int l2), (3, .int l3), (4, .int l4)]) (st' := [.int 1]) (ps := [l4 < 0]) rfl ⟨c1, trivial⟩ ?_
    cases h
    exact hV.rz rfl rfl rfl (Or.inr rfl) hP
  · rw [if_neg c1] at h
    by_cases c2 : l3 ≤ l4
    · rw [if_pos c2] at h
      refine hV.run 6 [0, 1] (ws' := wX5 σ) (pc' := 56) (ls' := [(0, .ref 0), (1, .int l1), (2, .int l2), (3, .int l3), (4, .int l4)]) (st' := [.int 1]) (ps := [¬ l4 < 0, l3 ≤ l4]) rfl ⟨c1, c2, trivial⟩ ?_
      cases h
      exact hV.rz rfl rfl rfl (Or.inr rfl) hP
    · rw [if_neg c2] at h
      refine hV.run 6 [0, 0] (ws' := wX5 σ) (pc' := 16) (ls' := [(0, .ref 0), (1, .int l1), (2, .int l2), (3, .int l3), (4, .int l4)]) (st' := [.int l4]) (ps := [¬ l4 < 0, ¬ l3 ≤ l4]) rfl ⟨c1, c2, trivial⟩ ?_
      refine hV.kS 0 rfl rfl (by decide) ?_
      refine hV.cXi (as := []) (rest := [.int l4]) (st := [.retAddr 0, .int l4]) (pc2 := 21) kX5_69 (c_slen l 0 (by decide)) rfl rfl rfl rfl rfl rfl (by decide) rfl rfl rfl ?_
      by_cases c3 : (am_slen 0) ≤ l4
      · rw [if_pos c3] at h
        refine hV.run 2 [1] (ws' := wX5 σ) (pc' := 56) (ls' := [(0, .ref 0), (1, .int l1), (2, .int l2), (3, .int l3), (4, .int l4)]) (st' := [.int 1]) (ps := [(am_slen 0) ≤ l4]) rfl ⟨c3, trivial⟩ ?_
        cases h
        exact hV.rz rfl rfl rfl (Or.inr rfl) hP
      · rw [if_neg c3] at h
        refine hV.run 1 [0] (ws' := wX5 σ) (pc' := 24) (ls' := [(0, .ref 0), (1, .int l1), (2, .int l2), (3, .int l3), (4, .int l4)]) (st' := []) (ps := [¬ (am_slen 0) ≤ l4]) rfl ⟨c3, trivial⟩ ?_
        refine hV.kS 0 rfl rfl (by decide) ?_
        refine hV.run 1 [] (ws' := wX5 σ) (pc' := 28) (ls' := [(0, .ref 0), (1, .int l1), (2, .int l2), (3, .int l3), (4, .int l4)]) (st' := [.int l4, .retAddr 0]) (ps := []) rfl trivial ?_
        by_cases g4 : l4 < 0
        · rw [if_pos g4] at h; cases h
        rw [if_neg g4] at h
        by_cases g5 : ¬ l4 < am_slen 0
        · rw [if_pos g5] at h; cases h
        rw [if_neg g5] at h
        refine hV.cXi (as := [.int l4]) (rest := []) (st := [.int l4, .retAddr 0]) (pc2 := 31) kX5_75 (c_sch l 0 (by decide) l4 g4 (Classical.not_not.mp g5)) rfl rfl rfl rfl rfl rfl (by decide) rfl rfl rfl ?_
        refine hV.run 7 [] (ws' := wX5 σ) (pc' := 41) (ls' := [(0, .ref 0), (1, .int l1), (2, .int l2), (3, .int l3), (4, .int l4)]) (st' := [.int ((l1 + l4) - l2), .ref 1, .int (am_sch 0 l4)]) (ps := []) rfl trivial ?_
        refine hV.cSi (as := [.ref 0, .int ((l1 + l4) - l2)]) (js := [1]) (rest := [.int (am_sch 0 l4)]) (st := [.int ((l1 + l4) - l2), .ref 1, .int (am_sch 0 l4)]) (ws2 := wX5 σ) (pc2 := 44) kX5_56 (c_at l 1 700 (by decide) (σ 1) ((l1 + l4) - l2)) rfl rfl rfl rfl rfl rfl rfl rfl rfl rfl ?_
        by_cases c6 : (am_sch 0 l4) = (jat 700 (σ 1) ((l1 + l4) - l2))
        · rw [if_pos c6] at h
          refine hV.run 3 [1] (ws' := wX5 σ) (pc' := 3) (ls' := [(4, .int (l4 + 1)), (0, .ref 0), (1, .int l1), (2, .int l2), (3, .int l3)]) (st' := []) (ps := [(am_sch 0 l4) = (jat 700 (σ 1) ((l1 + l4) - l2))]) rfl ⟨c6, trivial⟩ ?_
          refine hV.pick [1, 2, 3, 4, 0] (ls' := [(0, .ref 0), (1, .int l1), (2, .int l2), (3, .int l3), (4, .int (l4 + 1))]) rfl ?_
          exact hk3 l1 l2 l3 (l4 + 1) h
        · rw [if_neg c6] at h
          refine hV.run 2 [0] (ws' := wX5 σ) (pc' := 48) (ls' := [(0, .ref 0), (1, .int l1), (2, .int l2), (3, .int l3), (4, .int l4)]) (st' := [.int 0]) (ps := [¬ (am_sch 0 l4) = (jat 700 (σ 1) ((l1 + l4) - l2))]) rfl ⟨c6, trivial⟩ ?_
          cases h
          exact hV.rz rfl rfl rfl (Or.inl rfl) hP
theorem p_X5_matches_L3 {l : Launch} {Post : Option Value → am_W → Prop} {V : am_VT} (hV : am_B l RX5 false 5 (am_cdT' tX5_matches) (am_rfL rfX5) (some .boolean) Post 5 V) (n : Nat) (σ : am_M) (res : Bool) (hP : Post (some (.int (b2i res))) (wX5 σ)) : ∀ (k : Nat) (l1 : Int32) (l2 : Int32) (l3 : Int32) (l4 : Int32) (h : X5_matches_L3 n σ k l1 l2 l3 l4 = some res), V (wX5 σ) 3 [(0, .ref 0), (1, .int l1), (2, .int l2), (3, .int l3), (4, .int l4)] [] := by
  intro k
  induction k with
  | zero => intro l1 l2 l3 l4 h; cases h
  | succ k ih => intro l1 l2 l3 l4 h; exact p_X5_matches_B3 hV n σ res hP _ ih l1 l2 l3 l4 h
def X5_matches (n : Nat) (σ : am_M) (a1 : Int32) (a2 : Int32) (a3 : Int32) : Option Bool := X5_matches_L3 n σ n a1 a2 a3 a2
set_option maxRecDepth 100000 in
set_option maxHeartbeats 4000000 in
theorem c_X5_matches (l : Launch) (n : Nat) (σ : am_M) (a1 : Int32) (a2 : Int32) (a3 : Int32) (res : Bool) (h : X5_matches n σ a1 a2 a3 = some res) : am_Con l yX5_matches cX5_matches 5 (some .boolean) 5 [.ref 0, .int a1, .int a2, .int a3] (wX5 σ) (fun (r : Option Value) (w : am_W) => r = (some (.int (b2i res))) ∧ w = (wX5 σ)) := by
  refine am_metn (n0 := 5) (own := RX5) (cd := am_cdT' tX5_matches) (rf := am_rfL rfX5) (ini := false) rfl (by decide +kernel) rfl (by decide) dX5_matches rfX5_ok (Nat.le_of_ble_eq_true rfl) ?_
  intro V hV
  have hP : (fun (r : Option Value) (w : am_W) => r = (some (.int (b2i res))) ∧ w = (wX5 σ)) (some (.int (b2i res))) (wX5 σ) := ⟨rfl, rfl⟩
  show V (wX5 σ) 0 [(0, .ref 0), (1, .int a1), (2, .int a2), (3, .int a3)] []
  unfold X5_matches at h
  refine hV.run 2 [] (ws' := wX5 σ) (pc' := 3) (ls' := [(4, .int a2), (0, .ref 0), (1, .int a1), (2, .int a2), (3, .int a3)]) (st' := []) (ps := []) rfl trivial ?_
  refine hV.pick [1, 2, 3, 4, 0] (ls' := [(0, .ref 0), (1, .int a1), (2, .int a2), (3, .int a3), (4, .int a2)]) rfl ?_
  exact p_X5_matches_L3 hV n σ res hP n a1 a2 a3 a2 h

def X5_wordOf_J74 (n : Nat) (σ : am_M) (kont8 : Int32 → Int32 → Int32 → Int32 → Int32 → Option Int32) (l1 : Int32) (l2 : Int32) (l3 : Int32) (l4 : Int32) (l5 : Int32) : Option Int32 := kont8 l1 l2 l3 l4 (l5 + 1)
set_option maxRecDepth 100000 in
set_option maxHeartbeats 4000000 in
theorem p_X5_wordOf_J74 {l : Launch} {Post : Option Value → am_W → Prop} {V : am_VT} (hV : am_B l RX5 false 6 (am_cdT' tX5_wordOf) (am_rfL rfX5) (some .int) Post 5 V) (n : Nat) (σ : am_M) (res : Int32) (hP : Post (some (.int res)) (wX5 σ)) (kont8 : Int32 → Int32 → Int32 → Int32 → Int32 → Option Int32) (hk8 : ∀ (l1 : Int32) (l2 : Int32) (l3 : Int32) (l4 : Int32) (l5 : Int32), kont8 l1 l2 l3 l4 l5 = some res → V (wX5 σ) 8 [(0, .ref 0), (1, .int l1), (2, .int l2), (3, .int l3), (4, .int l4), (5, .int l5)] []) (l1 : Int32) (l2 : Int32) (l3 : Int32) (l4 : Int32) (l5 : Int32) (h : X5_wordOf_J74 n σ kont8 l1 l2 l3 l4 l5 = some res) : V (wX5 σ) 74 [(0, .ref 0), (1, .int l1), (2, .int l2), (3, .int l3), (4, .int l4), (5, .int l5)] [] := by
  unfold X5_wordOf_J74 at h
  refine hV.run 2 [] (ws' := wX5 σ) (pc' := 8) (ls' := [(5, .int (l5 + 1)), (0, .ref 0), (1, .int l1), (2, .int l2), (3, .int l3), (4, .int l4)]) (st' := []) (ps := []) rfl trivial ?_
  refine hV.pick [1, 2, 3, 4, 5, 0] (ls' := [(0, .ref 0), (1, .int l1), (2, .int l2), (3, .int l3), (4, .int l4), (5, .int (l5 + 1))]) rfl ?_
  exact hk8 l1 l2 l3 l4 (l5 + 1) h
def X5_wordOf_J65 (n : Nat) (σ : am_M) (kont8 : Int32 → Int32 → Int32 → Int32 → Int32 → Option Int32) (l1 : Int32) (l2 : Int32) (l3 : Int32) (l5 : Int32) : Option Int32 := X5_wordOf_J74 n σ kont8 l1 l2 (l3 + 1) (l5 + 1) l5
set_option maxRecDepth 100000 in
set_option maxHeartbeats 4000000 in
theorem p_X5_wordOf_J65 {l : Launch} {Post : Option Value → am_W → Prop} {V : am_VT} (hV : am_B l RX5 false 6 (am_cdT' tX5_wordOf) (am_rfL rfX5) (some .int) Post 5 V) (n : Nat) (σ : am_M) (res : Int32) (hP : Post (some (.int res)) (wX5 σ)) (kont8 : Int32 → Int32 → Int32 → Int32 → Int32 → Option Int32) (hk8 : ∀ (l1 : Int32) (l2 : Int32) (l3 : Int32) (l4 : Int32) (l5 : Int32), kont8 l1 l2 l3 l4 l5 = some res → V (wX5 σ) 8 [(0, .ref 0), (1, .int l1), (2, .int l2), (3, .int l3), (4, .int l4), (5, .int l5)] []) (l1 : Int32) (l2 : Int32) (l3 : Int32) (l5 : Int32) (h : X5_wordOf_J65 n σ kont8 l1 l2 l3 l5 = some res) : V (wX5 σ) 65 [(0, .ref 0), (1, .int l1), (2, .int l2), (3, .int l3), (5, .int l5)] [] := by
  unfold X5_wordOf_J65 at h
  refine hV.run 5 [] (ws' := wX5 σ) (pc' := 74) (ls' := [(4, .int (l5 + 1)), (3, .int (l3 + 1)), (0, .ref 0), (1, .int l1), (2, .int l2), (5, .int l5)]) (st' := []) (ps := []) rfl trivial ?_
  refine hV.pick [2, 3, 4, 1, 0, 5] (ls' := [(0, .ref 0), (1, .int l1), (2, .int l2), (3, .int (l3 + 1)), (4, .int (l5 + 1)), (5, .int l5)]) rfl ?_
  exact p_X5_wordOf_J74 hV n σ res hP kont8 hk8 l1 l2 (l3 + 1) (l5 + 1) l5 h
def X5_wordOf_J40 (n : Nat) (σ : am_M) (kont8 : Int32 → Int32 → Int32 → Int32 → Int32 → Option Int32) (l1 : Int32) (l2 : Int32) (l3 : Int32) (l4 : Int32) (l5 : Int32) : Option Int32 := if (l5 - l4) = (l2 - l1) then (X5_matches n σ l1 l4 l5).bind (fun q2 => if q2 = true then (some l3) else (X5_wordOf_J65 n σ kont8 l1 l2 l3 l5)) else (X5_wordOf_J65 n σ kont8 l1 l2 l3 l5)
set_option maxRecDepth 100000 in
set_option maxHeartbeats 4000000 in
theorem p_X5_wordOf_J40 {l : Launch} {Post : Option Value → am_W → Prop} {V : am_VT} (hV : am_B l RX5 false 6 (am_cdT' tX5_wordOf) (am_rfL rfX5) (some .int) Post 5 V) (n : Nat) (σ : am_M) (res : Int32) (hP : Post (some (.int res)) (wX5 σ)) (kont8 : Int32 → Int32 → Int32 → Int32 → Int32 → Option Int32) (hk8 : ∀ (l1 : Int32) (l2 : Int32) (l3 : Int32) (l4 : Int32) (l5 : Int32), kont8 l1 l2 l3 l4 l5 = some res → V (wX5 σ) 8 [(0, .ref 0), (1, .int l1), (2, .int l2), (3, .int l3), (4, .int l4), (5, .int l5)] []) (l1 : Int32) (l2 : Int32) (l3 : Int32) (l4 : Int32) (l5 : Int32) (h : X5_wordOf_J40 n σ kont8 l1 l2 l3 l4 l5 = some res) : V (wX5 σ) 40 [(0, .ref 0), (1, .int l1), (2, .int l2), (3, .int l3), (4, .int l4), (5, .int l5)] [] := by
  unfold X5_wordOf_J40 at h
  by_cases c1 : (l5 - l4) = (l2 - l1)
  · rw [if_pos c1] at h
    refine hV.run 11 [0] (ws' := wX5 σ) (pc' := 57) (ls' := [(0, .ref 0), (1, .int l1), (2, .int l2), (3, .int l3), (4, .int l4), (5, .int l5)]) (st' := [.int l5, .int l4, .int l1, .ref 0]) (ps := [(l5 - l4) = (l2 - l1)]) rfl ⟨c1, trivial⟩ ?_
    obtain ⟨q2, hq2, h⟩ := am_bind h
    refine hV.cOi (as := [.int l1, .int l4, .int l5]) (rest := []) (st := [.int l5, .int l4, .int l1, .ref 0]) (ws2 := wX5 σ) (pc2 := 60) kX5_79 (c_X5_matches l n σ l1 l4 l5 q2 hq2) rfl rfl rfl rfl rfl rfl rfl rfl rfl ?_
    by_cases c3 : q2 = true
    · rw [if_pos c3] at h
      refine hV.run 2 [0] (ws' := wX5 σ) (pc' := 64) (ls' := [(0, .ref 0), (1, .int l1), (2, .int l2), (3, .int l3), (4, .int l4), (5, .int l5)]) (st' := [.int l3]) (ps := [¬ (b2i q2) = 0]) rfl ⟨(b2i_t c3), trivial⟩ ?_
      cases h
      exact hV.ri rfl rfl rfl hP
    · rw [if_neg c3] at h
      refine hV.run 1 [1] (ws' := wX5 σ) (pc' := 65) (ls' := [(0, .ref 0), (1, .int l1), (2, .int l2), (3, .int l3), (4, .int l4), (5, .int l5)]) (st' := []) (ps := [(b2i q2) = 0]) rfl ⟨(b2i_f c3), trivial⟩ ?_
      refine hV.pick [0, 1, 2, 3, 5] (ls' := [(0, .ref 0), (1, .int l1), (2, .int l2), (3, .int l3), (5, .int l5)]) rfl ?_
      exact p_X5_wordOf_J65 hV n σ res hP kont8 hk8 l1 l2 l3 l5 h
  · rw [if_neg c1] at h
    refine hV.run 7 [1] (ws' := wX5 σ) (pc' := 65) (ls' := [(0, .ref 0), (1, .int l1), (2, .int l2), (3, .int l3), (4, .int l4), (5, .int l5)]) (st' := []) (ps := [¬ (l5 - l4) = (l2 - l1)]) rfl ⟨c1, trivial⟩ ?_
    refine hV.pick [0, 1, 2, 3, 5] (ls' := [(0, .ref 0), (1, .int l1), (2, .int l2), (3, .int l3), (5, .int l5)]) rfl ?_
    exact p_X5_wordOf_J65 hV n σ res hP kont8 hk8 l1 l2 l3 l5 h
def X5_wordOf_B8 (n : Nat) (σ : am_M) (kont8 : Int32 → Int32 → Int32 → Int32 → Int32 → Option Int32) (l1 : Int32) (l2 : Int32) (l3 : Int32) (l4 : Int32) (l5 : Int32) : Option Int32 := if (am_slen 0) < l5 then (some 26) else (if l5 = (am_slen 0) then (X5_wordOf_J40 n σ kont8 l1 l2 l3 l4 l5) else (if l5 < 0 then none else (if ¬ l5 < am_slen 0 then none else (if (am_sch 0 l5) = 32 then (X5_wordOf_J40 n σ kont8 l1 l2 l3 l4 l5) else (X5_wordOf_J74 n σ kont8 l1 l2 l3 l4 l5)))))
def X5_wordOf_L8 (n : Nat) (σ : am_M) : Nat → Int32 → Int32 → Int32 → Int32 → Int32 → Option Int32
 | 0 => fun _ _ _ _ _ => none
 | k + 1 => fun l1 l2 l3 l4 l5 => X5_wordOf_B8 n σ (X5_wordOf_L8 n σ k) l1 l2 l3 l4 l5
set_option maxRecDepth 100000 in
set_option maxHeartbeats 4000000 in
theorem p_X5_wordOf_B8 {l : Launch} {Post : Option Value → am_W → Prop} {V : am_VT} (hV : am_B l RX5 false 6 (am_cdT' tX5_wordOf) (am_rfL rfX5) (some .int) Post 5 V) (n : Nat) (σ : am_M) (res : Int32) (hP : Post (some (.int res)) (wX5 σ)) (kont8 : Int32 → Int32 → Int32 → Int32 → Int32 → Option Int32) (hk8 : ∀ (l1 : Int32) (l2 : Int32) (l3 : Int32) (l4 : Int32) (l5 : Int32), kont8 l1 l2 l3 l4 l5 = some res → V (wX5 σ) 8 [(0, .ref 0), (1, .int l1), (2, .int l2), (3, .int l3), (4, .int l4), (5, .int l5)] []) (l1 : Int32) (l2 : Int32) (l3 : Int32) (l4 : Int32) (l5 : Int32) (h : X5_wordOf_B8 n σ kont8 l1 l2 l3 l4 l5 = some res) : V (wX5 σ) 8 [(0, .ref 0), (1, .int l1), (2, .int l2), (3, .int l3), (4, .int l4), (5, .int l5)] [] := by
  unfold X5_wordOf_B8 at h
  refine hV.run 1 [] (ws' := wX5 σ) (pc' := 10) (ls' := [(0, .ref 0), (1, .int l1), (2, .int l2), (3, .int l3), (4, .int l4), (5, .int l5)]) (st' := [.int l5]) (ps := []) rfl trivial ?_
  refine hV.kS 0 rfl rfl (by decide) ?_
  refine hV.cXi (as := []) (rest := [.int l5]) (st := [.retAddr 0, .int l5]) (pc2 := 15) kX5_69 (c_slen l 0 (by decide)) rfl rfl rfl rfl rfl rfl (by decide) rfl rfl rfl ?_
  by_cases c1 : (am_slen 0) < l5
  · rw [if_pos c1] at h
    refine hV.run 2 [1] (ws' := wX5 σ) (pc' := 82) (ls' := [(0, .ref 0), (1, .int l1), (2, .int l2), (3, .int l3), (4, .int l4), (5, .int l5)]) (st' := [.int 26]) (ps := [(am_slen 0) < l5]) rfl ⟨c1, trivial⟩ ?_
    cases h
    exact hV.ri rfl rfl rfl hP
  · rw [if_neg c1] at h
    refine hV.run 2 [0] (ws' := wX5 σ) (pc' := 20) (ls' := [(0, .ref 0), (1, .int l1), (2, .int l2), (3, .int l3), (4, .int l4), (5, .int l5)]) (st' := [.int l5]) (ps := [¬ (am_slen 0) < l5]) rfl ⟨c1, trivial⟩ ?_
    refine hV.kS 0 rfl rfl (by decide) ?_
    refine hV.cXi (as := []) (rest := [.int l5]) (st := [.retAddr 0, .int l5]) (pc2 := 25) kX5_69 (c_slen l 0 (by decide)) rfl rfl rfl rfl rfl rfl (by decide) rfl rfl rfl ?_
    by_cases c2 : l5 = (am_slen 0)
    · rw [if_pos c2] at h
      refine hV.run 1 [1] (ws' := wX5 σ) (pc' := 40) (ls' := [(0, .ref 0), (1, .int l1), (2, .int l2), (3, .int l3), (4, .int l4), (5, .int l5)]) (st' := []) (ps := [l5 = (am_slen 0)]) rfl ⟨c2, trivial⟩ ?_
      exact p_X5_wordOf_J40 hV n σ res hP kont8 hk8 l1 l2 l3 l4 l5 h
    · rw [if_neg c2] at h
      refine hV.run 1 [0] (ws' := wX5 σ) (pc' := 28) (ls' := [(0, .ref 0), (1, .int l1), (2, .int l2), (3, .int l3), (4, .int l4), (5, .int l5)]) (st' := []) (ps := [¬ l5 = (am_slen 0)]) rfl ⟨c2, trivial⟩ ?_
      refine hV.kS 0 rfl rfl (by decide) ?_
      refine hV.run 1 [] (ws' := wX5 σ) (pc' := 32) (ls' := [(0, .ref 0), (1, .int l1), (2, .int l2), (3, .int l3), (4, .int l4), (5, .int l5)]) (st' := [.int l5, .retAddr 0]) (ps := []) rfl trivial ?_
      by_cases g3 : l5 < 0
      · rw [if_pos g3] at h; cases h
      rw [if_neg g3] at h
      by_cases g4 : ¬ l5 < am_slen 0
      · rw [if_pos g4] at h; cases h
      rw [if_neg g4] at h
      refine hV.cXi (as := [.int l5]) (rest := []) (st := [.int l5, .retAddr 0]) (pc2 := 35) kX5_75 (c_sch l 0 (by decide) l5 g3 (Classical.not_not.mp g4)) rfl rfl rfl rfl rfl rfl (by decide) rfl rfl rfl ?_
      by_cases c5 : (am_sch 0 l5) = 32
      · rw [if_pos c5] at h
        refine hV.run 2 [0] (ws' := wX5 σ) (pc' := 40) (ls' := [(0, .ref 0), (1, .int l1), (2, .int l2), (3, .int l3), (4, .int l4), (5, .int l5)]) (st' := []) (ps := [(am_sch 0 l5) = 32]) rfl ⟨c5, trivial⟩ ?_
        exact p_X5_wordOf_J40 hV n σ res hP kont8 hk8 l1 l2 l3 l4 l5 h
      · rw [if_neg c5] at h
        refine hV.run 2 [1] (ws' := wX5 σ) (pc' := 74) (ls' := [(0, .ref 0), (1, .int l1), (2, .int l2), (3, .int l3), (4, .int l4), (5, .int l5)]) (st' := []) (ps := [¬ (am_sch 0 l5) = 32]) rfl ⟨c5, trivial⟩ ?_
        exact p_X5_wordOf_J74 hV n σ res hP kont8 hk8 l1 l2 l3 l4 l5 h
theorem p_X5_wordOf_L8 {l : Launch} {Post : Option Value → am_W → Prop} {V : am_VT} (hV : am_B l RX5 false 6 (am_cdT' tX5_wordOf) (am_rfL rfX5) (some .int) Post 5 V) (n : Nat) (σ : am_M) (res : Int32) (hP : Post (some (.int res)) (wX5 σ)) : ∀ (k : Nat) (l1 : Int32) (l2 : Int32) (l3 : Int32) (l4 : Int32) (l5 : Int32) (h : X5_wordOf_L8 n σ k l1 l2 l3 l4 l5 = some res), V (wX5 σ) 8 [(0, .ref 0), (1, .int l1), (2, .int l2), (3, .int l3), (4, .int l4), (5, .int l5)] [] := by
  intro k
  induction k with
  | zero => intro l1 l2 l3 l4 l5 h; cases h
  | succ k ih => intro l1 l2 l3 l4 l5 h; exact p_X5_wordOf_B8 hV n σ res hP _ ih l1 l2 l3 l4 l5 h
def X5_wordOf (n : Nat) (σ : am_M) (a1 : Int32) (a2 : Int32) : Option Int32 := X5_wordOf_L8 n σ n a1 a2 0 0 0
set_option maxRecDepth 100000 in
set_option maxHeartbeats 4000000 in
theorem c_X5_wordOf (l : Launch) (n : Nat) (σ : am_M) (a1 : Int32) (a2 : Int32) (res : Int32) (h : X5_wordOf n σ a1 a2 = some res) : am_Con l yX5_wordOf cX5_wordOf 6 (some .int) 6 [.ref 0, .int a1, .int a2] (wX5 σ) (fun (r : Option Value) (w : am_W) => r = (some (.int res)) ∧ w = (wX5 σ)) := by
  refine am_metn (n0 := 5) (own := RX5) (cd := am_cdT' tX5_wordOf) (rf := am_rfL rfX5) (ini := false) rfl (by decide +kernel) rfl (by decide) dX5_wordOf rfX5_ok (Nat.le_of_ble_eq_true rfl) ?_
  intro V hV
  have hP : (fun (r : Option Value) (w : am_W) => r = (some (.int res)) ∧ w = (wX5 σ)) (some (.int res)) (wX5 σ) := ⟨rfl, rfl⟩
  show V (wX5 σ) 0 [(0, .ref 0), (1, .int a1), (2, .int a2)] []
  unfold X5_wordOf at h
  refine hV.run 6 [] (ws' := wX5 σ) (pc' := 8) (ls' := [(5, .int 0), (4, .int 0), (3, .int 0), (0, .ref 0), (1, .int a1), (2, .int a2)]) (st' := []) (ps := []) rfl trivial ?_
  refine hV.pick [3, 4, 5, 2, 1, 0] (ls' := [(0, .ref 0), (1, .int a1), (2, .int a2), (3, .int 0), (4, .int 0), (5, .int 0)]) rfl ?_
  exact p_X5_wordOf_L8 hV n σ res hP n a1 a2 0 0 0 h

def X5_sortOf (n : Nat) (σ : am_M) (a1 : Int32) (a2 : Int32) : Option Int32 := if (X5_classOf σ a1) = 1 then (X5_wordOf n σ a1 a2).bind (fun q2 => some q2) else (if (X5_classOf σ a1) = 2 then (some 27) else (some (100 + (jat 700 (σ 1) a1))))
set_option maxRecDepth 100000 in
set_option maxHeartbeats 4000000 in
theorem c_X5_sortOf (l : Launch) (n : Nat) (σ : am_M) (a1 : Int32) (a2 : Int32) (res : Int32) (h : X5_sortOf n σ a1 a2 = some res) : am_Con l yX5_sortOf cX5_sortOf 3 (some .int) 7 [.ref 0, .int a1, .int a2] (wX5 σ) (fun (r : Option Value) (w : am_W) => r = (some (.int res)) ∧ w = (wX5 σ)) := by
  refine am_metn (n0 := 5) (own := RX5) (cd := am_cdT' tX5_sortOf) (rf := am_rfL rfX5) (ini := false) rfl (by decide +kernel) rfl (by decide) dX5_sortOf rfX5_ok (Nat.le_of_ble_eq_true rfl) ?_
  intro V hV
  have hP : (fun (r : Option Value) (w : am_W) => r = (some (.int res)) ∧ w = (wX5 σ)) (some (.int res)) (wX5 σ) := ⟨rfl, rfl⟩
  show V (wX5 σ) 0 [(0, .ref 0), (1, .int a1), (2, .int a2)] []
  unfold X5_sortOf at h
  refine hV.run 2 [] (ws' := wX5 σ) (pc' := 2) (ls' := [(0, .ref 0), (1, .int a1), (2, .int a2)]) (st' := [.int a1, .ref 0]) (ps := []) rfl trivial ?_
  refine hV.cOi (as := [.int a1]) (rest := []) (st := [.int a1, .ref 0]) (ws2 := wX5 σ) (pc2 := 5) kX5_60 (c_X5_classOf l σ a1) rfl rfl rfl rfl rfl rfl rfl rfl rfl ?_
  by_cases c1 : (X5_classOf σ a1) = 1
  · rw [if_pos c1] at h
    refine hV.run 4 [1] (ws' := wX5 σ) (pc' := 35) (ls' := [(0, .ref 0), (1, .int a1), (2, .int a2)]) (st' := [.int a2, .int a1, .ref 0]) (ps := [(5 : Int) + Op.lookupswitch.offset [(1, 27), (2, 34)] (37) (X5_classOf σ a1).toInt = ((32 : Nat) : Int)]) rfl ⟨(by rw [c1]; decide), trivial⟩ ?_
    obtain ⟨q2, hq2, h⟩ := am_bind h
    refine hV.cOi (as := [.int a1, .int a2]) (rest := []) (st := [.int a2, .int a1, .ref 0]) (ws2 := wX5 σ) (pc2 := 38) kX5_64 (c_X5_wordOf l n σ a1 a2 q2 hq2) rfl rfl rfl rfl rfl rfl rfl rfl rfl ?_
    cases h
    exact hV.ri rfl rfl rfl hP
  · rw [if_neg c1] at h
    by_cases c3 : (X5_classOf σ a1) = 2
    · rw [if_pos c3] at h
      refine hV.run 2 [2] (ws' := wX5 σ) (pc' := 41) (ls' := [(0, .ref 0), (1, .int a1), (2, .int a2)]) (st' := [.int 27]) (ps := [(5 : Int) + Op.lookupswitch.offset [(1, 27), (2, 34)] (37) (X5_classOf σ a1).toInt = ((39 : Nat) : Int)]) rfl ⟨(by rw [c3]; decide), trivial⟩ ?_
      cases h
      exact hV.ri rfl rfl rfl hP
    · rw [if_neg c3] at h
      refine hV.run 5 [0] (ws' := wX5 σ) (pc' := 49) (ls' := [(0, .ref 0), (1, .int a1), (2, .int a2)]) (st' := [.int a1, .ref 1, .int 100]) (ps := [(5 : Int) + Op.lookupswitch.offset [(1, 27), (2, 34)] (37) (X5_classOf σ a1).toInt = ((42 : Nat) : Int)]) rfl ⟨(by have c1_ := am_ne c1 (by decide : (1 : Int32).toInt = 1); have c3_ := am_ne c3 (by decide : (2 : Int32).toInt = 2); simp [Op.lookupswitch.offset, c1_, c3_, Ne.symm c1_, Ne.symm c3_]), trivial⟩ ?_
      refine hV.cSi (as := [.ref 0, .int a1]) (js := [1]) (rest := [.int 100]) (st := [.int a1, .ref 1, .int 100]) (ws2 := wX5 σ) (pc2 := 52) kX5_56 (c_at l 1 700 (by decide) (σ 1) a1) rfl rfl rfl rfl rfl rfl rfl rfl rfl rfl ?_
      refine hV.run 1 [] (ws' := wX5 σ) (pc' := 53) (ls' := [(0, .ref 0), (1, .int a1), (2, .int a2)]) (st' := [.int (100 + (jat 700 (σ 1) a1))]) (ps := []) rfl trivial ?_
      cases h
      exact hV.ri rfl rfl rfl hP

def X5_scan_J70 (n : Nat) (σ : am_M) (l1 : Int32) : Option am_M := (X5_addToken σ 28 l1 0).bind (fun q1 => some q1)
set_option maxRecDepth 100000 in
set_option maxHeartbeats 4000000 in
theorem p_X5_scan_J70 {l : Launch} {Post : Option Value → am_W → Prop} {V : am_VT} (hV : am_B l RX5 false 8 (am_cdT' tX5_scan) (am_rfL rfX5) none Post 5 V) (n : Nat) (res : am_M) (hP : Post none (wX5 res)) (σ : am_M) (l1 : Int32) (h : X5_scan_J70 n σ l1 = some res) : V (wX5 σ) 70 [(0, .ref 0), (1, .int l1)] [] := by
  unfold X5_scan_J70 at h
  refine hV.run 4 [] (ws' := wX5 σ) (pc' := 75) (ls' := [(0, .ref 0), (1, .int l1)]) (st' := [.int 0, .int l1, .int 28, .ref 0]) (ps := []) rfl trivial ?_
  obtain ⟨q1, hq1, h⟩ := am_bind h
  refine hV.cOv (as := [.int 28, .int l1, .int 0]) (rest := []) (st := [.int 0, .int l1, .int 28, .ref 0]) (ws2 := wX5 q1) (pc2 := 78) kX5_52 (c_X5_addToken l σ 28 l1 0 q1 hq1) rfl rfl rfl rfl rfl rfl rfl rfl rfl ?_
  cases h
  exact hV.rv rfl rfl rfl hP
def X5_scan_J61 (n : Nat) (kont14 : am_M → Int32 → Int32 → Int32 → Option am_M) (σ : am_M) (l1 : Int32) (l3 : Int32) (l4 : Int32) : Option am_M := kont14 σ l1 l4 (l3 + 1)
set_option maxRecDepth 100000 in
set_option maxHeartbeats 4000000 in
theorem p_X5_scan_J61 {l : Launch} {Post : Option Value → am_W → Prop} {V : am_VT} (hV : am_B l RX5 false 8 (am_cdT' tX5_scan) (am_rfL rfX5) none Post 5 V) (n : Nat) (res : am_M) (hP : Post none (wX5 res)) (kont14 : am_M → Int32 → Int32 → Int32 → Option am_M) (hk14 : ∀ (σ : am_M) (l1 : Int32) (l2 : Int32) (l3 : Int32), kont14 σ l1 l2 l3 = some res → V (wX5 σ) 14 [(0, .ref 0), (1, .int l1), (2, .int l2), (3, .int l3)] []) (σ : am_M) (l1 : Int32) (l3 : Int32) (l4 : Int32) (h : X5_scan_J61 n kont14 σ l1 l3 l4 = some res) : V (wX5 σ) 61 [(0, .ref 0), (1, .int l1), (3, .int l3), (4, .int l4)] [] := by
  unfold X5_scan_J61 at h
  refine hV.run 4 [] (ws' := wX5 σ) (pc' := 14) (ls' := [(3, .int (l3 + 1)), (2, .int l4), (0, .ref 0), (1, .int l1), (4, .int l4)]) (st' := []) (ps := []) rfl trivial ?_
  refine hV.pick [2, 3, 1, 0] (ls' := [(0, .ref 0), (1, .int l1), (2, .int l4), (3, .int (l3 + 1))]) rfl ?_
  exact hk14 σ l1 l4 (l3 + 1) h
def X5_scan_B14 (n : Nat) (kont14 : am_M → Int32 → Int32 → Int32 → Option am_M) (σ : am_M) (l1 : Int32) (l2 : Int32) (l3 : Int32) : Option am_M := if 700 ≤ l3 then (X5_scan_J70 n σ l1) else (if l1 ≤ l2 then (X5_scan_J70 n σ l1) else (X5_endOf n σ l2 l1).bind (fun q3 => if (X5_isBlank σ l2) = true then (X5_scan_J61 n kont14 σ l1 l3 q3) else (X5_sortOf n σ l2 q3).bind (fun q5 => (X5_numberOf n σ l2 q3).bind (fun q6 => (X5_addToken σ q5 l2 q6).bind (fun q7 => X5_scan_J61 n kont14 q7 l1 l3 q3)))))
def X5_scan_L14 (n : Nat) : Nat → am_M → Int32 → Int32 → Int32 → Option am_M
 | 0 => fun _ _ _ _ => none
 | k + 1 => fun σ l1 l2 l3 => X5_scan_B14 n (X5_scan_L14 n k) σ l1 l2 l3
set_option maxRecDepth 100000 in
set_option maxHeartbeats 4000000 in
theorem p_X5_scan_B14 {l : Launch} {Post : Option Value → am_W → Prop} {V : am_VT} (hV : am_B l RX5 false 8 (am_cdT' tX5_scan) (am_rfL rfX5) none Post 5 V) (n : Nat) (res : am_M) (hP : Post none (wX5 res)) (kont14 : am_M → Int32 → Int32 → Int32 → Option am_M) (hk14 : ∀ (σ : am_M) (l1 : Int32) (l2 : Int32) (l3 : Int32), kont14 σ l1 l2 l3 = some res → V (wX5 σ) 14 [(0, .ref 0), (1, .int l1), (2, .int l2), (3, .int l3)] []) (σ : am_M) (l1 : Int32) (l2 : Int32) (l3 : Int32) (h : X5_scan_B14 n kont14 σ l1 l2 l3 = some res) : V (wX5 σ) 14 [(0, .ref 0), (1, .int l1), (2, .int l2), (3, .int l3)] [] := by
  unfold X5_scan_B14 at h
  by_cases c1 : 700 ≤ l3
  · rw [if_pos c1] at h
    refine hV.run 3 [1] (ws' := wX5 σ) (pc' := 70) (ls' := [(0, .ref 0), (1, .int l1), (2, .int l2), (3, .int l3)]) (st' := []) (ps := [700 ≤ l3]) rfl ⟨c1, trivial⟩ ?_
    refine hV.pick [0, 1] (ls' := [(0, .ref 0), (1, .int l1)]) rfl ?_
    exact p_X5_scan_J70 hV n res hP σ l1 h
  · rw [if_neg c1] at h
    by_cases c2 : l1 ≤ l2
    · rw [if_pos c2] at h
      refine hV.run 6 [0, 1] (ws' := wX5 σ) (pc' := 70) (ls' := [(0, .ref 0), (1, .int l1), (2, .int l2), (3, .int l3)]) (st' := []) (ps := [¬ 700 ≤ l3, l1 ≤ l2]) rfl ⟨c1, c2, trivial⟩ ?_
      refine hV.pick [0, 1] (ls' := [(0, .ref 0), (1, .int l1)]) rfl ?_
      exact p_X5_scan_J70 hV n res hP σ l1 h
    · rw [if_neg c2] at h
      refine hV.run 9 [0, 0] (ws' := wX5 σ) (pc' := 29) (ls' := [(0, .ref 0), (1, .int l1), (2, .int l2), (3, .int l3)]) (st' := [.int l1, .int l2, .ref 0]) (ps := [¬ 700 ≤ l3, ¬ l1 ≤ l2]) rfl ⟨c1, c2, trivial⟩ ?_
      obtain ⟨q3, hq3, h⟩ := am_bind h
      refine hV.cOi (as := [.int l2, .int l1]) (rest := []) (st := [.int l1, .int l2, .ref 0]) (ws2 := wX5 σ) (pc2 := 32) kX5_38 (c_X5_endOf l n σ l2 l1 q3 hq3) rfl rfl rfl rfl rfl rfl rfl rfl rfl ?_
      refine hV.run 3 [] (ws' := wX5 σ) (pc' := 36) (ls' := [(4, .int q3), (0, .ref 0), (1, .int l1), (2, .int l2), (3, .int l3)]) (st' := [.int l2, .ref 0]) (ps := []) rfl trivial ?_
      refine hV.cOi (as := [.int l2]) (rest := []) (st := [.int l2, .ref 0]) (ws2 := wX5 σ) (pc2 := 39) kX5_42 (c_X5_isBlank l σ l2) rfl rfl rfl rfl rfl rfl rfl rfl rfl ?_
      by_cases c4 : (X5_isBlank σ l2) = true
      · rw [if_pos c4] at h
        refine hV.run 1 [1] (ws' := wX5 σ) (pc' := 61) (ls' := [(4, .int q3), (0, .ref 0), (1, .int l1), (2, .int l2), (3, .int l3)]) (st' := []) (ps := [¬ (b2i (X5_isBlank σ l2)) = 0]) rfl ⟨(b2i_t c4), trivial⟩ ?_
        refine hV.pick [1, 2, 4, 0] (ls' := [(0, .ref 0), (1, .int l1), (3, .int l3), (4, .int q3)]) rfl ?_
        exact p_X5_scan_J61 hV n res hP kont14 hk14 σ l1 l3 q3 h
      · rw [if_neg c4] at h
        refine hV.run 5 [0] (ws' := wX5 σ) (pc' := 47) (ls' := [(4, .int q3), (0, .ref 0), (1, .int l1), (2, .int l2), (3, .int l3)]) (st' := [.int q3, .int l2, .ref 0, .ref 0]) (ps := [(b2i (X5_isBlank σ l2)) = 0]) rfl ⟨(b2i_f c4), trivial⟩ ?_
        obtain ⟨q5, hq5, h⟩ := am_bind h
        refine hV.cOi (as := [.int l2, .int q3]) (rest := [.ref 0]) (st := [.int q3, .int l2, .ref 0, .ref 0]) (ws2 := wX5 σ) (pc2 := 50) kX5_46 (c_X5_sortOf l n σ l2 q3 q5 hq5) rfl rfl rfl rfl rfl rfl rfl rfl rfl ?_
        refine hV.run 4 [] (ws' := wX5 σ) (pc' := 55) (ls' := [(4, .int q3), (0, .ref 0), (1, .int l1), (2, .int l2), (3, .int l3)]) (st' := [.int q3, .int l2, .ref 0, .int l2, .int q5, .ref 0]) (ps := []) rfl trivial ?_
        obtain ⟨q6, hq6, h⟩ := am_bind h
        refine hV.cOi (as := [.int l2, .int q3]) (rest := [.int l2, .int q5, .ref 0]) (st := [.int q3, .int l2, .ref 0, .int l2, .int q5, .ref 0]) (ws2 := wX5 σ) (pc2 := 58) kX5_49 (c_X5_numberOf l n σ l2 q3 q6 hq6) rfl rfl rfl rfl rfl rfl rfl rfl rfl ?_
        obtain ⟨q7, hq7, h⟩ := am_bind h
        refine hV.cOv (as := [.int q5, .int l2, .int q6]) (rest := []) (st := [.int q6, .int l2, .int q5, .ref 0]) (ws2 := wX5 q7) (pc2 := 61) kX5_52 (c_X5_addToken l σ q5 l2 q6 q7 hq7) rfl rfl rfl rfl rfl rfl rfl rfl rfl ?_
        refine hV.pick [1, 2, 4, 0] (ls' := [(0, .ref 0), (1, .int l1), (3, .int l3), (4, .int q3)]) rfl ?_
        exact p_X5_scan_J61 hV n res hP kont14 hk14 q7 l1 l3 q3 h
theorem p_X5_scan_L14 {l : Launch} {Post : Option Value → am_W → Prop} {V : am_VT} (hV : am_B l RX5 false 8 (am_cdT' tX5_scan) (am_rfL rfX5) none Post 5 V) (n : Nat) (res : am_M) (hP : Post none (wX5 res)) : ∀ (k : Nat) (σ : am_M) (l1 : Int32) (l2 : Int32) (l3 : Int32) (h : X5_scan_L14 n k σ l1 l2 l3 = some res), V (wX5 σ) 14 [(0, .ref 0), (1, .int l1), (2, .int l2), (3, .int l3)] [] := by
  intro k
  induction k with
  | zero => intro σ l1 l2 l3 h; cases h
  | succ k ih => intro σ l1 l2 l3 h; exact p_X5_scan_B14 hV n res hP _ ih σ l1 l2 l3 h
def X5_scan (n : Nat) (σ : am_M) (a1 : Int32) : Option am_M := X5_scan_L14 n n (sC σ 0 (am_u (am_u (σ 0) 5 0) 6 0)) a1 0 0
set_option maxRecDepth 100000 in
set_option maxHeartbeats 4000000 in
theorem c_X5_scan (l : Launch) (n : Nat) (σ : am_M) (a1 : Int32) (res : am_M) (h : X5_scan n σ a1 = some res) : am_Con l yX5_scan cX5_scan 5 none 8 [.ref 0, .int a1] (wX5 σ) (fun (r : Option Value) (w : am_W) => r = none ∧ w = (wX5 res)) := by
  refine am_metn (n0 := 5) (own := RX5) (cd := am_cdT' tX5_scan) (rf := am_rfL rfX5) (ini := false) rfl (by decide +kernel) rfl (by decide) dX5_scan rfX5_ok (Nat.le_of_ble_eq_true rfl) ?_
  intro V hV
  have hP : (fun (r : Option Value) (w : am_W) => r = none ∧ w = (wX5 res)) none (wX5 res) := ⟨rfl, rfl⟩
  show V (wX5 σ) 0 [(0, .ref 0), (1, .int a1)] []
  unfold X5_scan at h
  refine hV.run 10 [] (ws' := wX5 (sC σ 0 (am_u (am_u (σ 0) 5 0) 6 0))) (pc' := 14) (ls' := [(3, .int 0), (2, .int 0), (0, .ref 0), (1, .int a1)]) (st' := []) (ps := []) rfl trivial ?_
  refine hV.pick [2, 3, 1, 0] (ls' := [(0, .ref 0), (1, .int a1), (2, .int 0), (3, .int 0)]) rfl ?_
  exact p_X5_scan_L14 hV n res hP n (sC σ 0 (am_u (am_u (σ 0) 5 0) 6 0)) a1 0 0 h

