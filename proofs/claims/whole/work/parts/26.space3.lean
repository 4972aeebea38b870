def X4_kindOfEnding (σ : am_M) (a1 : Int32) : Int32 := (jat 200 (σ 25) (jat 200 (σ 26) a1))
set_option maxRecDepth 100000 in
set_option maxHeartbeats 4000000 in
theorem c_X4_kindOfEnding (l : Launch) (σ : am_M) (τ : Nat → Int64) (x : Nat) (a1 : Int32) : am_Con l yX4_kindOfEnding cX4_kindOfEnding 2 (some .int) 2 [.ref 0, .int a1] (wX4 x σ τ) (fun (r : Option Value) (w : am_W) => r = (some (.int (X4_kindOfEnding σ a1))) ∧ w = (wX4 x σ τ)) := by
  obtain ⟨res, h⟩ : ∃ res, (X4_kindOfEnding σ a1) = res := ⟨_, rfl⟩
  rw [h]
  refine am_metn (n0 := 28) (own := RX4) (cd := am_cdT' tX4_kindOfEnding) (rf := am_rfL rfX4) (ini := false) rfl (by decide +kernel) rfl (by decide) dX4_kindOfEnding rfX4_ok (Nat.le_of_ble_eq_true rfl) ?_
  intro V hV
  have hP : (fun (r : Option Value) (w : am_W) => r = (some (.int res)) ∧ w = (wX4 x σ τ)) (some (.int res)) (wX4 x σ τ) := ⟨rfl, rfl⟩
  show V (wX4 x σ τ) 0 [(0, .ref 0), (1, .int a1)] []
  unfold X4_kindOfEnding at h
  refine hV.run 5 [] (ws' := wX4 x σ τ) (pc' := 9) (ls' := [(0, .ref 0), (1, .int a1)]) (st' := [.int a1, .ref 26, .ref 25]) (ps := []) rfl trivial ?_
  refine hV.cSi (as := [.ref 0, .int a1]) (js := [26]) (rest := [.ref 25]) (st := [.int a1, .ref 26, .ref 25]) (ws2 := wX4 x σ τ) (pc2 := 12) kX4_123 (c_at l 1 200 (by decide) (σ 26) a1) rfl rfl rfl rfl rfl rfl rfl rfl rfl rfl ?_
  refine hV.cSi (as := [.ref 0, .int (jat 200 (σ 26) a1)]) (js := [25]) (rest := []) (st := [.int (jat 200 (σ 26) a1), .ref 25]) (ws2 := wX4 x σ τ) (pc2 := 15) kX4_123 (c_at l 1 200 (by decide) (σ 25) (jat 200 (σ 26) a1)) rfl rfl rfl rfl rfl rfl rfl rfl rfl rfl ?_
  subst h
  exact hV.ri rfl rfl rfl hP

def X4_endingsOf_J29 (n : Nat) (σ : am_M) (kont4 : Int32 → Int32 → Int32 → Option Int32) (l1 : Int32) (l2 : Int32) (l3 : Int32) : Option Int32 := kont4 l1 l2 (l3 + 1)
set_option maxRecDepth 100000 in
set_option maxHeartbeats 4000000 in
theorem p_X4_endingsOf_J29 {l : Launch} {Post : Option Value → am_W → Prop} {V : am_VT} (hV : am_B l RX4 false 3 (am_cdT' tX4_endingsOf) (am_rfL rfX4) (some .int) Post 28 V) (n : Nat) (σ : am_M) (τ : Nat → Int64) (x : Nat) (res : Int32) (hP : Post (some (.int res)) (wX4 x σ τ)) (kont4 : Int32 → Int32 → Int32 → Option Int32) (hk4 : ∀ (l1 : Int32) (l2 : Int32) (l3 : Int32), kont4 l1 l2 l3 = some res → V (wX4 x σ τ) 4 [(0, .ref 0), (1, .int l1), (2, .int l2), (3, .int l3)] []) (l1 : Int32) (l2 : Int32) (l3 : Int32) (h : X4_endingsOf_J29 n σ kont4 l1 l2 l3 = some res) : V (wX4 x σ τ) 29 [(0, .ref 0), (1, .int l1), (2, .int l2), (3, .int l3)] [] := by
  unfold X4_endingsOf_J29 at h
  refine hV.run 2 [] (ws' := wX4 x σ τ) (pc' := 4) (ls' := [(3, .int (l3 + 1)), (0, .ref 0), (1, .int l1), (2, .int l2)]) (st' := []) (ps := []) rfl trivial ?_
  refine hV.pick [1, 2, 3, 0] (ls' := [(0, .ref 0), (1, .int l1), (2, .int l2), (3, .int (l3 + 1))]) rfl ?_
  exact hk4 l1 l2 (l3 + 1) h
def X4_endingsOf_J26 (n : Nat) (σ : am_M) (kont4 : Int32 → Int32 → Int32 → Option Int32) (l1 : Int32) (l2 : Int32) (l3 : Int32) : Option Int32 := X4_endingsOf_J29 n σ kont4 l1 (l2 + 1) l3
set_option maxRecDepth 100000 in
set_option maxHeartbeats 4000000 in
theorem p_X4_endingsOf_J26 {l : Launch} {Post : Option Value → am_W → Prop} {V : am_VT} (hV : am_B l RX4 false 3 (am_cdT' tX4_endingsOf) (am_rfL rfX4) (some .int) Post 28 V) (n : Nat) (σ : am_M) (τ : Nat → Int64) (x : Nat) (res : Int32) (hP : Post (some (.int res)) (wX4 x σ τ)) (kont4 : Int32 → Int32 → Int32 → Option Int32) (hk4 : ∀ (l1 : Int32) (l2 : Int32) (l3 : Int32), kont4 l1 l2 l3 = some res → V (wX4 x σ τ) 4 [(0, .ref 0), (1, .int l1), (2, .int l2), (3, .int l3)] []) (l1 : Int32) (l2 : Int32) (l3 : Int32) (h : X4_endingsOf_J26 n σ kont4 l1 l2 l3 = some res) : V (wX4 x σ τ) 26 [(0, .ref 0), (1, .int l1), (2, .int l2), (3, .int l3)] [] := by
  unfold X4_endingsOf_J26 at h
  refine hV.run 1 [] (ws' := wX4 x σ τ) (pc' := 29) (ls' := [(2, .int (l2 + 1)), (0, .ref 0), (1, .int l1), (3, .int l3)]) (st' := []) (ps := []) rfl trivial ?_
  refine hV.pick [1, 2, 0, 3] (ls' := [(0, .ref 0), (1, .int l1), (2, .int (l2 + 1)), (3, .int l3)]) rfl ?_
  exact p_X4_endingsOf_J29 hV n σ τ x res hP kont4 hk4 l1 (l2 + 1) l3 h
def X4_endingsOf_B4 (n : Nat) (σ : am_M) (kont4 : Int32 → Int32 → Int32 → Option Int32) (l1 : Int32) (l2 : Int32) (l3 : Int32) : Option Int32 := if (σ 0 10) ≤ l3 then (some l2) else (if l1 = (-1) then (X4_endingsOf_J26 n σ kont4 l1 l2 l3) else (if (X4_kindOfEnding σ l3) = l1 then (X4_endingsOf_J26 n σ kont4 l1 l2 l3) else (X4_endingsOf_J29 n σ kont4 l1 l2 l3)))
def X4_endingsOf_L4 (n : Nat) (σ : am_M) : Nat → Int32 → Int32 → Int32 → Option Int32
 | 0 => fun _ _ _ => none
 | k + 1 => fun l1 l2 l3 => X4_endingsOf_B4 n σ (X4_endingsOf_L4 n σ k) l1 l2 l3
set_option maxRecDepth 100000 in
set_option maxHeartbeats 4000000 in
theorem p_X4_endingsOf_B4 {l : Launch} {Post : Option Value → am_W → Prop} {V : am_VT} (hV : am_B l RX4 false 3 (am_cdT' tX4_endingsOf) (am_rfL rfX4) (some .int) Post 28 V) (n : Nat) (σ : am_M) (τ : Nat → Int64) (x : Nat) (res : Int32) (hP : Post (some (.int res)) (wX4 x σ τ)) (kont4 : Int32 → Int32 → Int32 → Option Int32) (hk4 : ∀ (l1 : Int32) (l2 : Int32) (l3 : Int32), kont4 l1 l2 l3 = some res → V (wX4 x σ τ) 4 [(0, .ref 0), (1, .int l1), (2, .int l2), (3, .int l3)] []) (l1 : Int32) (l2 : Int32) (l3 : Int32) (h : X4_endingsOf_B4 n σ kont4 l1 l2 l3 = some res) : V (wX4 x σ τ) 4 [(0, .ref 0), (1, .int l1), (2, .int l2), (3, .int l3)] [] := by
  unfold X4_endingsOf_B4 at h
  by_cases c1 : (σ 0 10) ≤ l3
  · rw [if_pos c1] at h
    refine hV.run 5 [1] (ws' := wX4 x σ τ) (pc' := 36) (ls' := [(0, .ref 0), (1, .int l1), (2, .int l2), (3, .int l3)]) (st' := [.int l2]) (ps := [(σ 0 10) ≤ l3]) rfl ⟨c1, trivial⟩ ?_
    cases h
    exact hV.ri rfl rfl rfl hP
  · rw [if_neg c1] at h
    by_cases c2 : l1 = (-1)
    · rw [if_pos c2] at h
      refine hV.run 7 [0, 1] (ws' := wX4 x σ τ) (pc' := 26) (ls' := [(0, .ref 0), (1, .int l1), (2, .int l2), (3, .int l3)]) (st' := []) (ps := [¬ (σ 0 10) ≤ l3, l1 = (-1)]) rfl ⟨c1, c2, trivial⟩ ?_
      exact p_X4_endingsOf_J26 hV n σ τ x res hP kont4 hk4 l1 l2 l3 h
    · rw [if_neg c2] at h
      refine hV.run 9 [0, 0] (ws' := wX4 x σ τ) (pc' := 19) (ls' := [(0, .ref 0), (1, .int l1), (2, .int l2), (3, .int l3)]) (st' := [.int l3, .ref 0]) (ps := [¬ (σ 0 10) ≤ l3, ¬ l1 = (-1)]) rfl ⟨c1, c2, trivial⟩ ?_
      refine hV.cOi (as := [.int l3]) (rest := []) (st := [.int l3, .ref 0]) (ws2 := wX4 x σ τ) (pc2 := 22) kX4_190 (c_X4_kindOfEnding l σ τ x l3) rfl rfl rfl rfl rfl rfl rfl rfl rfl ?_
      by_cases c3 : (X4_kindOfEnding σ l3) = l1
      · rw [if_pos c3] at h
        refine hV.run 2 [0] (ws' := wX4 x σ τ) (pc' := 26) (ls' := [(0, .ref 0), (1, .int l1), (2, .int l2), (3, .int l3)]) (st' := []) (ps := [(X4_kindOfEnding σ l3) = l1]) rfl ⟨c3, trivial⟩ ?_
        exact p_X4_endingsOf_J26 hV n σ τ x res hP kont4 hk4 l1 l2 l3 h
      · rw [if_neg c3] at h
        refine hV.run 2 [1] (ws' := wX4 x σ τ) (pc' := 29) (ls' := [(0, .ref 0), (1, .int l1), (2, .int l2), (3, .int l3)]) (st' := []) (ps := [¬ (X4_kindOfEnding σ l3) = l1]) rfl ⟨c3, trivial⟩ ?_
        exact p_X4_endingsOf_J29 hV n σ τ x res hP kont4 hk4 l1 l2 l3 h
theorem p_X4_endingsOf_L4 {l : Launch} {Post : Option Value → am_W → Prop} {V : am_VT} (hV : am_B l RX4 false 3 (am_cdT' tX4_endingsOf) (am_rfL rfX4) (some .int) Post 28 V) (n : Nat) (σ : am_M) (τ : Nat → Int64) (x : Nat) (res : Int32) (hP : Post (some (.int res)) (wX4 x σ τ)) : ∀ (k : Nat) (l1 : Int32) (l2 : Int32) (l3 : Int32) (h : X4_endingsOf_L4 n σ k l1 l2 l3 = some res), V (wX4 x σ τ) 4 [(0, .ref 0), (1, .int l1), (2, .int l2), (3, .int l3)] [] := by
  intro k
  induction k with
  | zero => intro l1 l2 l3 h; cases h
  | succ k ih => intro l1 l2 l3 h; exact p_X4_endingsOf_B4 hV n σ τ x res hP _ ih l1 l2 l3 h
def X4_endingsOf (n : Nat) (σ : am_M) (a1 : Int32) : Option Int32 := X4_endingsOf_L4 n σ n a1 0 0
set_option maxRecDepth 100000 in
set_option maxHeartbeats 4000000 in
theorem c_X4_endingsOf (l : Launch) (n : Nat) (σ : am_M) (τ : Nat → Int64) (x : Nat) (a1 : Int32) (res : Int32) (h : X4_endingsOf n σ a1 = some res) : am_Con l yX4_endingsOf cX4_endingsOf 4 (some .int) 3 [.ref 0, .int a1] (wX4 x σ τ) (fun (r : Option Value) (w : am_W) => r = (some (.int res)) ∧ w = (wX4 x σ τ)) := by
  refine am_metn (n0 := 28) (own := RX4) (cd := am_cdT' tX4_endingsOf) (rf := am_rfL rfX4) (ini := false) rfl (by decide +kernel) rfl (by decide) dX4_endingsOf rfX4_ok (Nat.le_of_ble_eq_true rfl) ?_
  intro V hV
  have hP : (fun (r : Option Value) (w : am_W) => r = (some (.int res)) ∧ w = (wX4 x σ τ)) (some (.int res)) (wX4 x σ τ) := ⟨rfl, rfl⟩
  show V (wX4 x σ τ) 0 [(0, .ref 0), (1, .int a1)] []
  unfold X4_endingsOf at h
  refine hV.run 4 [] (ws' := wX4 x σ τ) (pc' := 4) (ls' := [(3, .int 0), (2, .int 0), (0, .ref 0), (1, .int a1)]) (st' := []) (ps := []) rfl trivial ?_
  refine hV.pick [2, 3, 1, 0] (ls' := [(0, .ref 0), (1, .int a1), (2, .int 0), (3, .int 0)]) rfl ?_
  exact p_X4_endingsOf_L4 hV n σ τ x res hP n a1 0 0 h

def X4_tellEnding (n : Nat) (σ : am_M) (a1 : Int32) (a2 : Int32) : Option Int32 := if a2 = 0 then (some (X4_kindOfEnding σ a1)) else (if a2 = 1 then (some (X4_wordsOf σ (jat 200 (σ 26) a1))) else (if a2 = 2 then (X4_unendedOf n σ (jat 200 (σ 26) a1)).bind (fun q4 => some q4) else (some (X4_toldOf σ (jat 200 (σ 26) a1) (a2 - 4)))))
set_option maxRecDepth 100000 in
set_option maxHeartbeats 4000000 in
theorem c_X4_tellEnding (l : Launch) (n : Nat) (σ : am_M) (τ : Nat → Int64) (x : Nat) (a1 : Int32) (a2 : Int32) (res : Int32) (h : X4_tellEnding n σ a1 a2 = some res) : am_Con l yX4_tellEnding cX4_tellEnding 4 (some .int) 3 [.ref 0, .int a1, .int a2] (wX4 x σ τ) (fun (r : Option Value) (w : am_W) => r = (some (.int res)) ∧ w = (wX4 x σ τ)) := by
  refine am_metn (n0 := 28) (own := RX4) (cd := am_cdT' tX4_tellEnding) (rf := am_rfL rfX4) (ini := false) rfl (by decide +kernel) rfl (by decide) dX4_tellEnding rfX4_ok (Nat.le_of_ble_eq_true rfl) ?_
  intro V hV
  have hP : (fun (r : Option Value) (w : am_W) => r = (some (.int res)) ∧ w = (wX4 x σ τ)) (some (.int res)) (wX4 x σ τ) := ⟨rfl, rfl⟩
  show V (wX4 x σ τ) 0 [(0, .ref 0), (1, .int a1), (2, .int a2)] []
  unfold X4_tellEnding at h
  refine hV.run 3 [] (ws' := wX4 x σ τ) (pc' := 5) (ls' := [(0, .ref 0), (1, .int a1), (2, .int a2)]) (st' := [.int a1, .ref 26]) (ps := []) rfl trivial ?_
  refine hV.cSi (as := [.ref 0, .int a1]) (js := [26]) (rest := []) (st := [.int a1, .ref 26]) (ws2 := wX4 x σ τ) (pc2 := 8) kX4_123 (c_at l 1 200 (by decide) (σ 26) a1) rfl rfl rfl rfl rfl rfl rfl rfl rfl rfl ?_
  by_cases c1 : a2 = 0
  · rw [if_pos c1] at h
    refine hV.run 5 [1] (ws' := wX4 x σ τ) (pc' := 38) (ls' := [(3, .int (jat 200 (σ 26) a1)), (0, .ref 0), (1, .int a1), (2, .int a2)]) (st' := [.int a1, .ref 0]) (ps := [a2.toInt = 0 + ((0 : Nat) : Int), 0 < 3, ¬ 2 < a2.toInt]) rfl ⟨(by rw [c1]; decide), (by decide), (by rw [c1]; decide), trivial⟩ ?_
    refine hV.cOi (as := [.int a1]) (rest := []) (st := [.int a1, .ref 0]) (ws2 := wX4 x σ τ) (pc2 := 41) kX4_190 (c_X4_kindOfEnding l σ τ x a1) rfl rfl rfl rfl rfl rfl rfl rfl rfl ?_
    cases h
    exact hV.ri rfl rfl rfl hP
  · rw [if_neg c1] at h
    by_cases c2 : a2 = 1
    · rw [if_pos c2] at h
      refine hV.run 5 [2] (ws' := wX4 x σ τ) (pc' := 44) (ls' := [(3, .int (jat 200 (σ 26) a1)), (0, .ref 0), (1, .int a1), (2, .int a2)]) (st' := [.int (jat 200 (σ 26) a1), .ref 0]) (ps := [a2.toInt = 0 + ((1 : Nat) : Int), 1 < 3, ¬ 2 < a2.toInt]) rfl ⟨(by rw [c2]; decide), (by decide), (by rw [c2]; decide), trivial⟩ ?_
      refine hV.cOi (as := [.int (jat 200 (σ 26) a1)]) (rest := []) (st := [.int (jat 200 (σ 26) a1), .ref 0]) (ws2 := wX4 x σ τ) (pc2 := 47) kX4_184 (c_X4_wordsOf l σ τ x (jat 200 (σ 26) a1)) rfl rfl rfl rfl rfl rfl rfl rfl rfl ?_
      cases h
      exact hV.ri rfl rfl rfl hP
    · rw [if_neg c2] at h
      by_cases c3 : a2 = 2
      · rw [if_pos c3] at h
        refine hV.run 5 [3] (ws' := wX4 x σ τ) (pc' := 50) (ls' := [(3, .int (jat 200 (σ 26) a1)), (0, .ref 0), (1, .int a1), (2, .int a2)]) (st' := [.int (jat 200 (σ 26) a1), .ref 0]) (ps := [a2.toInt = 0 + ((2 : Nat) : Int), 2 < 3, ¬ 2 < a2.toInt]) rfl ⟨(by rw [c3]; decide), (by decide), (by rw [c3]; decide), trivial⟩ ?_
        obtain ⟨q4, hq4, h⟩ := am_bind h
        refine hV.cOi (as := [.int (jat 200 (σ 26) a1)]) (rest := []) (st := [.int (jat 200 (σ 26) a1), .ref 0]) (ws2 := wX4 x σ τ) (pc2 := 53) kX4_187 (c_X4_unendedOf l n σ τ x (jat 200 (σ 26) a1) q4 hq4) rfl rfl rfl rfl rfl rfl rfl rfl rfl ?_
        cases h
        exact hV.ri rfl rfl rfl hP
      · rw [if_neg c3] at h
        refine hV.run 8 [0] (ws' := wX4 x σ τ) (pc' := 59) (ls' := [(3, .int (jat 200 (σ 26) a1)), (0, .ref 0), (1, .int a1), (2, .int a2)]) (st' := [.int (a2 - 4), .int (jat 200 (σ 26) a1), .ref 0]) (ps := [a2.toInt < 0 ∨ 2 < a2.toInt]) rfl ⟨(by have c1_ := am_ne c1 (by decide : (0 : Int32).toInt = 0); have c2_ := am_ne c2 (by decide : (1 : Int32).toInt = 1); have c3_ := am_ne c3 (by decide : (2 : Int32).toInt = 2); omega), trivial⟩ ?_
        refine hV.cOi (as := [.int (jat 200 (σ 26) a1), .int (a2 - 4)]) (rest := []) (st := [.int (a2 - 4), .int (jat 200 (σ 26) a1), .ref 0]) (ws2 := wX4 x σ τ) (pc2 := 62) kX4_181 (c_X4_toldOf l σ τ x (jat 200 (σ 26) a1) (a2 - 4)) rfl rfl rfl rfl rfl rfl rfl rfl rfl ?_
        cases h
        exact hV.ri rfl rfl rfl hP

def X4_locks (σ : am_M) : Bool := if (σ 0 11) = 0 then (if (σ 0 10) ≤ 0 then (false) else (if (X4_kindOfEnding σ ((σ 0 10) - 1)) = 2 then (true) else (false))) else (false)
set_option maxRecDepth 100000 in
set_option maxHeartbeats 4000000 in
theorem c_X4_locks (l : Launch) (σ : am_M) (τ : Nat → Int64) (x : Nat) : am_Con l yX4_locks cX4_locks 1 (some .boolean) 3 [.ref 0] (wX4 x σ τ) (fun (r : Option Value) (w : am_W) => r = (some (.int (b2i (X4_locks σ)))) ∧ w = (wX4 x σ τ)) := by
  obtain ⟨res, h⟩ : ∃ res, (X4_locks σ) = res := ⟨_, rfl⟩
  rw [h]
  refine am_metn (n0 := 28) (own := RX4) (cd := am_cdT' tX4_locks) (rf := am_rfL rfX4) (ini := false) rfl (by decide +kernel) rfl (by decide) dX4_locks rfX4_ok (Nat.le_of_ble_eq_true rfl) ?_
  intro V hV
  have hP : (fun (r : Option Value) (w : am_W) => r = (some (.int (b2i res))) ∧ w = (wX4 x σ τ)) (some (.int (b2i res))) (wX4 x σ τ) := ⟨rfl, rfl⟩
  show V (wX4 x σ τ) 0 [(0, .ref 0)] []
  unfold X4_locks at h
  by_cases c1 : (σ 0 11) = 0
  · rw [if_pos c1] at h
    by_cases c2 : (σ 0 10) ≤ 0
    · rw [if_pos c2] at h
      refine hV.run 7 [0, 1] (ws' := wX4 x σ τ) (pc' := 33) (ls' := [(0, .ref 0)]) (st' := [.int 0]) (ps := [(σ 0 11) = 0, (σ 0 10) ≤ 0]) rfl ⟨c1, c2, trivial⟩ ?_
      subst h
      exact hV.rz rfl rfl rfl (Or.inl rfl) hP
    · rw [if_neg c2] at h
      refine hV.run 11 [0, 0] (ws' := wX4 x σ τ) (pc' := 21) (ls' := [(0, .ref 0)]) (st' := [.int ((σ 0 10) - 1), .ref 0]) (ps := [(σ 0 11) = 0, ¬ (σ 0 10) ≤ 0]) rfl ⟨c1, c2, trivial⟩ ?_
      refine hV.cOi (as := [.int ((σ 0 10) - 1)]) (rest := []) (st := [.int ((σ 0 10) - 1), .ref 0]) (ws2 := wX4 x σ τ) (pc2 := 24) kX4_190 (c_X4_kindOfEnding l σ τ x ((σ 0 10) - 1)) rfl rfl rfl rfl rfl rfl rfl rfl rfl ?_
      by_cases c3 : (X4_kindOfEnding σ ((σ 0 10) - 1)) = 2
      · rw [if_pos c3] at h
        refine hV.run 4 [0] (ws' := wX4 x σ τ) (pc' := 33) (ls' := [(0, .ref 0)]) (st' := [.int 1]) (ps := [(X4_kindOfEnding σ ((σ 0 10) - 1)) = 2]) rfl ⟨c3, trivial⟩ ?_
        subst h
        exact hV.rz rfl rfl rfl (Or.inr rfl) hP
      · rw [if_neg c3] at h
        refine hV.run 3 [1] (ws' := wX4 x σ τ) (pc' := 33) (ls' := [(0, .ref 0)]) (st' := [.int 0]) (ps := [¬ (X4_kindOfEnding σ ((σ 0 10) - 1)) = 2]) rfl ⟨c3, trivial⟩ ?_
        subst h
        exact hV.rz rfl rfl rfl (Or.inl rfl) hP
  · rw [if_neg c1] at h
    refine hV.run 4 [1] (ws' := wX4 x σ τ) (pc' := 33) (ls' := [(0, .ref 0)]) (st' := [.int 0]) (ps := [¬ (σ 0 11) = 0]) rfl ⟨c1, trivial⟩ ?_
    subst h
    exact hV.rz rfl rfl rfl (Or.inl rfl) hP

def X4_wholeUnlike_B20 (n : Nat) (σ : am_M) (kont2 : Int32 → Option Bool) (kont20 : Int32 → Int32 → Option Bool) (l1 : Int32) (l2 : Int32) : Option Bool := if (σ 0 13) ≤ l2 then (kont2 (l1 + 1)) else (if (X4_toldOf σ (jat 200 (σ 26) l1) l2) = (X4_toldOf σ (jat 200 (σ 26) 0) l2) then (kont20 l1 (l2 + 1)) else (some true))
def X4_wholeUnlike_L20 (n : Nat) (σ : am_M) (kont2 : Int32 → Option Bool) : Nat → Int32 → Int32 → Option Bool
 | 0 => fun _ _ => none
 | k + 1 => fun l1 l2 => X4_wholeUnlike_B20 n σ kont2 (X4_wholeUnlike_L20 n σ kont2 k) l1 l2
set_option maxRecDepth 100000 in
set_option maxHeartbeats 4000000 in
theorem p_X4_wholeUnlike_B20 {l : Launch} {Post : Option Value → am_W → Prop} {V : am_VT} (hV : am_B l RX4 false 3 (am_cdT' tX4_wholeUnlike) (am_rfL rfX4) (some .boolean) Post 28 V) (n : Nat) (σ : am_M) (τ : Nat → Int64) (x : Nat) (res : Bool) (hP : Post (some (.int (b2i res))) (wX4 x σ τ)) (kont2 : Int32 → Option Bool) (hk2 : ∀ (l1 : Int32), kont2 l1 = some res → V (wX4 x σ τ) 2 [(0, .ref 0), (1, .int l1)] []) (kont20 : Int32 → Int32 → Option Bool) (hk20 : ∀ (l1 : Int32) (l2 : Int32), kont20 l1 l2 = some res → V (wX4 x σ τ) 20 [(0, .ref 0), (1, .int l1), (2, .int l2)] []) (l1 : Int32) (l2 : Int32) (h : X4_wholeUnlike_B20 n σ kont2 kont20 l1 l2 = some res) : V (wX4 x σ τ) 20 [(0, .ref 0), (1, .int l1), (2, .int l2)] [] := by
  unfold X4_wholeUnlike_B20 at h
  by_cases c1 : (σ 0 13) ≤ l2
  · rw [if_pos c1] at h
    refine hV.run 6 [1] (ws' := wX4 x σ τ) (pc' := 2) (ls' := [(1, .int (l1 + 1)), (0, .ref 0), (2, .int l2)]) (st' := []) (ps := [(σ 0 13) ≤ l2]) rfl ⟨c1, trivial⟩ ?_
    refine hV.pick [1, 0] (ls' := [(0, .ref 0), (1, .int (l1 + 1))]) rfl ?_
    exact hk2 (l1 + 1) h
  · rw [if_neg c1] at h
    refine hV.run 8 [0] (ws' := wX4 x σ τ) (pc' := 34) (ls' := [(0, .ref 0), (1, .int l1), (2, .int l2)]) (st' := [.int l1, .ref 26, .ref 0]) (ps := [¬ (σ 0 13) ≤ l2]) rfl ⟨c1, trivial⟩ ?_
    refine hV.cSi (as := [.ref 0, .int l1]) (js := [26]) (rest := [.ref 0]) (st := [.int l1, .ref 26, .ref 0]) (ws2 := wX4 x σ τ) (pc2 := 37) kX4_123 (c_at l 1 200 (by decide) (σ 26) l1) rfl rfl rfl rfl rfl rfl rfl rfl rfl rfl ?_
    refine hV.run 1 [] (ws' := wX4 x σ τ) (pc' := 38) (ls' := [(0, .ref 0), (1, .int l1), (2, .int l2)]) (st' := [.int l2, .int (jat 200 (σ 26) l1), .ref 0]) (ps := []) rfl trivial ?_
    refine hV.cOi (as := [.int (jat 200 (σ 26) l1), .int l2]) (rest := []) (st := [.int l2, .int (jat 200 (σ 26) l1), .ref 0]) (ws2 := wX4 x σ τ) (pc2 := 41) kX4_181 (c_X4_toldOf l σ τ x (jat 200 (σ 26) l1) l2) rfl rfl rfl rfl rfl rfl rfl rfl rfl ?_
    refine hV.run 4 [] (ws' := wX4 x σ τ) (pc' := 47) (ls' := [(0, .ref 0), (1, .int l1), (2, .int l2)]) (st' := [.int 0, .ref 26, .ref 0, .int (X4_toldOf σ (jat 200 (σ 26) l1) l2)]) (ps := []) rfl trivial ?_
    refine hV.cSi (as := [.ref 0, .int 0]) (js := [26]) (rest := [.ref 0, .int (X4_toldOf σ (jat 200 (σ 26) l1) l2)]) (st := [.int 0, .ref 26, .ref 0, .int (X4_toldOf σ (jat 200 (σ 26) l1) l2)]) (ws2 := wX4 x σ τ) (pc2 := 50) kX4_123 (c_at l 1 200 (by decide) (σ 26) 0) rfl rfl rfl rfl rfl rfl rfl rfl rfl rfl ?_
    refine hV.run 1 [] (ws' := wX4 x σ τ) (pc' := 51) (ls' := [(0, .ref 0), (1, .int l1), (2, .int l2)]) (st' := [.int l2, .int (jat 200 (σ 26) 0), .ref 0, .int (X4_toldOf σ (jat 200 (σ 26) l1) l2)]) (ps := []) rfl trivial ?_
    refine hV.cOi (as := [.int (jat 200 (σ 26) 0), .int l2]) (rest := [.int (X4_toldOf σ (jat 200 (σ 26) l1) l2)]) (st := [.int l2, .int (jat 200 (σ 26) 0), .ref 0, .int (X4_toldOf σ (jat 200 (σ 26) l1) l2)]) (ws2 := wX4 x σ τ) (pc2 := 54) kX4_181 (c_X4_toldOf l σ τ x (jat 200 (σ 26) 0) l2) rfl rfl rfl rfl rfl rfl rfl rfl rfl ?_
    by_cases c2 : (X4_toldOf σ (jat 200 (σ 26) l1) l2) = (X4_toldOf σ (jat 200 (σ 26) 0) l2)
    · rw [if_pos c2] at h
      refine hV.run 3 [1] (ws' := wX4 x σ τ) (pc' := 20) (ls' := [(2, .int (l2 + 1)), (0, .ref 0), (1, .int l1)]) (st' := []) (ps := [(X4_toldOf σ (jat 200 (σ 26) l1) l2) = (X4_toldOf σ (jat 200 (σ 26) 0) l2)]) rfl ⟨c2, trivial⟩ ?_
      refine hV.pick [1, 2, 0] (ls' := [(0, .ref 0), (1, .int l1), (2, .int (l2 + 1))]) rfl ?_
      exact hk20 l1 (l2 + 1) h
    · rw [if_neg c2] at h
      refine hV.run 2 [0] (ws' := wX4 x σ τ) (pc' := 58) (ls' := [(0, .ref 0), (1, .int l1), (2, .int l2)]) (st' := [.int 1]) (ps := [¬ (X4_toldOf σ (jat 200 (σ 26) l1) l2) = (X4_toldOf σ (jat 200 (σ 26) 0) l2)]) rfl ⟨c2, trivial⟩ ?_
      cases h
      exact hV.rz rfl rfl rfl (Or.inr rfl) hP
theorem p_X4_wholeUnlike_L20 {l : Launch} {Post : Option Value → am_W → Prop} {V : am_VT} (hV : am_B l RX4 false 3 (am_cdT' tX4_wholeUnlike) (am_rfL rfX4) (some .boolean) Post 28 V) (n : Nat) (σ : am_M) (τ : Nat → Int64) (x : Nat) (res : Bool) (hP : Post (some (.int (b2i res))) (wX4 x σ τ)) (kont2 : Int32 → Option Bool) (hk2 : ∀ (l1 : Int32), kont2 l1 = some res → V (wX4 x σ τ) 2 [(0, .ref 0), (1, .int l1)] []) : ∀ (k : Nat) (l1 : Int32) (l2 : Int32) (h : X4_wholeUnlike_L20 n σ kont2 k l1 l2 = some res), V (wX4 x σ τ) 20 [(0, .ref 0), (1, .int l1), (2, .int l2)] [] := by
  intro k
  induction k with
  | zero => intro l1 l2 h; cases h
  | succ k ih => intro l1 l2 h; exact p_X4_wholeUnlike_B20 hV n σ τ x res hP kont2 hk2 _ ih l1 l2 h
def X4_wholeUnlike_B2 (n : Nat) (σ : am_M) (kont2 : Int32 → Option Bool) (l1 : Int32) : Option Bool := if (σ 0 10) ≤ l1 then (some false) else (if (X4_kindOfEnding σ l1) = 0 then (X4_wholeUnlike_L20 n σ kont2 n l1 0) else (some false))
def X4_wholeUnlike_L2 (n : Nat) (σ : am_M) : Nat → Int32 → Option Bool
 | 0 => fun _ => none
 | k + 1 => fun l1 => X4_wholeUnlike_B2 n σ (X4_wholeUnlike_L2 n σ k) l1
set_option maxRecDepth 100000 in
set_option maxHeartbeats 4000000 in
theorem p_X4_wholeUnlike_B2 {l : Launch} {Post : Option Value → am_W → Prop} {V : am_VT} (hV : am_B l RX4 false 3 (am_cdT' tX4_wholeUnlike) (am_rfL rfX4) (some .boolean) Post 28 V) (n : Nat) (σ : am_M) (τ : Nat → Int64) (x : Nat) (res : Bool) (hP : Post (some (.int (b2i res))) (wX4 x σ τ)) (kont2 : Int32 → Option Bool) (hk2 : ∀ (l1 : Int32), kont2 l1 = some res → V (wX4 x σ τ) 2 [(0, .ref 0), (1, .int l1)] []) (l1 : Int32) (h : X4_wholeUnlike_B2 n σ kont2 l1 = some res) : V (wX4 x σ τ) 2 [(0, .ref 0), (1, .int l1)] [] := by
  unfold X4_wholeUnlike_B2 at h
  by_cases c1 : (σ 0 10) ≤ l1
  · rw [if_pos c1] at h
    refine hV.run 5 [1] (ws' := wX4 x σ τ) (pc' := 72) (ls' := [(0, .ref 0), (1, .int l1)]) (st' := [.int 0]) (ps := [(σ 0 10) ≤ l1]) rfl ⟨c1, trivial⟩ ?_
    cases h
    exact hV.rz rfl rfl rfl (Or.inl rfl) hP
  · rw [if_neg c1] at h
    refine hV.run 6 [0] (ws' := wX4 x σ τ) (pc' := 12) (ls' := [(0, .ref 0), (1, .int l1)]) (st' := [.int l1, .ref 0]) (ps := [¬ (σ 0 10) ≤ l1]) rfl ⟨c1, trivial⟩ ?_
    refine hV.cOi (as := [.int l1]) (rest := []) (st := [.int l1, .ref 0]) (ws2 := wX4 x σ τ) (pc2 := 15) kX4_190 (c_X4_kindOfEnding l σ τ x l1) rfl rfl rfl rfl rfl rfl rfl rfl rfl ?_
    by_cases c2 : (X4_kindOfEnding σ l1) = 0
    · rw [if_pos c2] at h
      refine hV.run 3 [0] (ws' := wX4 x σ τ) (pc' := 20) (ls' := [(2, .int 0), (0, .ref 0), (1, .int l1)]) (st' := []) (ps := [(X4_kindOfEnding σ l1) = 0]) rfl ⟨c2, trivial⟩ ?_
      refine hV.pick [1, 2, 0] (ls' := [(0, .ref 0), (1, .int l1), (2, .int 0)]) rfl ?_
      exact p_X4_wholeUnlike_L20 hV n σ τ x res hP kont2 hk2 n l1 0 h
    · rw [if_neg c2] at h
      refine hV.run 2 [1] (ws' := wX4 x σ τ) (pc' := 72) (ls' := [(0, .ref 0), (1, .int l1)]) (st' := [.int 0]) (ps := [¬ (X4_kindOfEnding σ l1) = 0]) rfl ⟨c2, trivial⟩ ?_
      cases h
      exact hV.rz rfl rfl rfl (Or.inl rfl) hP
theorem p_X4_wholeUnlike_L2 {l : Launch} {Post : Option Value → am_W → Prop} {V : am_VT} (hV : am_B l RX4 false 3 (am_cdT' tX4_wholeUnlike) (am_rfL rfX4) (some .boolean) Post 28 V) (n : Nat) (σ : am_M) (τ : Nat → Int64) (x : Nat) (res : Bool) (hP : Post (some (.int (b2i res))) (wX4 x σ τ)) : ∀ (k : Nat) (l1 : Int32) (h : X4_wholeUnlike_L2 n σ k l1 = some res), V (wX4 x σ τ) 2 [(0, .ref 0), (1, .int l1)] [] := by
  intro k
  induction k with
  | zero => intro l1 h; cases h
  | succ k ih => intro l1 h; exact p_X4_wholeUnlike_B2 hV n σ τ x res hP _ ih l1 h
def X4_wholeUnlike (n : Nat) (σ : am_M) : Option Bool := X4_wholeUnlike_L2 n σ n 1
set_option maxRecDepth 100000 in
set_option maxHeartbeats 4000000 in
theorem c_X4_wholeUnlike (l : Launch) (n : Nat) (σ : am_M) (τ : Nat → Int64) (x : Nat) (res : Bool) (h : X4_wholeUnlike n σ = some res) : am_Con l yX4_wholeUnlike cX4_wholeUnlike 3 (some .boolean) 3 [.ref 0] (wX4 x σ τ) (fun (r : Option Value) (w : am_W) => r = (some (.int (b2i res))) ∧ w = (wX4 x σ τ)) := by
  refine am_metn (n0 := 28) (own := RX4) (cd := am_cdT' tX4_wholeUnlike) (rf := am_rfL rfX4) (ini := false) rfl (by decide +kernel) rfl (by decide) dX4_wholeUnlike rfX4_ok (Nat.le_of_ble_eq_true rfl) ?_
  intro V hV
  have hP : (fun (r : Option Value) (w : am_W) => r = (some (.int (b2i res))) ∧ w = (wX4 x σ τ)) (some (.int (b2i res))) (wX4 x σ τ) := ⟨rfl, rfl⟩
  show V (wX4 x σ τ) 0 [(0, .ref 0)] []
  unfold X4_wholeUnlike at h
  refine hV.run 2 [] (ws' := wX4 x σ τ) (pc' := 2) (ls' := [(1, .int 1), (0, .ref 0)]) (st' := []) (ps := []) rfl trivial ?_
  refine hV.pick [1, 0] (ls' := [(0, .ref 0), (1, .int 1)]) rfl ?_
  exact p_X4_wholeUnlike_L2 hV n σ τ x res hP n 1 h

def X4_takenFrom (σ : am_M) (a1 : Int32) (a2 : Int32) : Int32 := (jat 320 (σ 27) ((a1 * 40) + a2))
set_option maxRecDepth 100000 in
set_option maxHeartbeats 4000000 in
theorem c_X4_takenFrom (l : Launch) (σ : am_M) (τ : Nat → Int64) (x : Nat) (a1 : Int32) (a2 : Int32) : am_Con l yX4_takenFrom cX4_takenFrom 3 (some .int) 2 [.ref 0, .int a1, .int a2] (wX4 x σ τ) (fun (r : Option Value) (w : am_W) => r = (some (.int (X4_takenFrom σ a1 a2))) ∧ w = (wX4 x σ τ)) := by
  obtain ⟨res, h⟩ : ∃ res, (X4_takenFrom σ a1 a2) = res := ⟨_, rfl⟩
  rw [h]
  refine am_metn (n0 := 28) (own := RX4) (cd := am_cdT' tX4_takenFrom) (rf := am_rfL rfX4) (ini := false) rfl (by decide +kernel) rfl (by decide) dX4_takenFrom rfX4_ok (Nat.le_of_ble_eq_true rfl) ?_
  intro V hV
  have hP : (fun (r : Option Value) (w : am_W) => r = (some (.int res)) ∧ w = (wX4 x σ τ)) (some (.int res)) (wX4 x σ τ) := ⟨rfl, rfl⟩
  show V (wX4 x σ τ) 0 [(0, .ref 0), (1, .int a1), (2, .int a2)] []
  unfold X4_takenFrom at h
  refine hV.run 7 [] (ws' := wX4 x σ τ) (pc' := 10) (ls' := [(0, .ref 0), (1, .int a1), (2, .int a2)]) (st' := [.int ((a1 * 40) + a2), .ref 27]) (ps := []) rfl trivial ?_
  refine hV.cSi (as := [.ref 0, .int ((a1 * 40) + a2)]) (js := [27]) (rest := []) (st := [.int ((a1 * 40) + a2), .ref 27]) (ws2 := wX4 x σ τ) (pc2 := 13) kX4_123 (c_at l 1 320 (by decide) (σ 27) ((a1 * 40) + a2)) rfl rfl rfl rfl rfl rfl rfl rfl rfl rfl ?_
  subst h
  exact hV.ri rfl rfl rfl hP

