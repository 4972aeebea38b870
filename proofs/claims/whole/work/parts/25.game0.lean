def wX0 (x : Nat) (σ : am_M) (τ : Nat → Int64) : am_W := [.inr (0, [.ref 1, .int (σ 0 1), .long (τ 0), .ref 20, .int (σ 0 4), .ref 21, .int (σ 0 6)]),
  .inr (2, [.ref x, .int (σ 1 1), .int (σ 1 2), .int (σ 1 3), .int (σ 1 4), .long (τ 1), .ref 2, .ref 3, .ref 8, .ref 9, .ref 10, .ref 11, .int (σ 1 12), .int (σ 1 13), .int (σ 1 14), .int (σ 1 15)]),
  .inl (0, 104, .inl (σ 2)),
  .inr (6, [.ref 4, .ref 5, .ref 6, .ref 7, .int (σ 3 4)]),
  .inl (0, 320, .inl (σ 4)),
  .inl (0, 320, .inl (σ 5)),
  .inl (0, 320, .inl (σ 6)),
  .inl (0, 320, .inl (σ 7)),
  .inl (0, 40, .inl (σ 8)),
  .inl (0, 8, .inl (σ 9)),
  .inl (0, 8, .inl (σ 10)),
  .inl (0, 8, .inl (σ 11)),
  .inr (3, [.ref 13, .ref 14, .ref 15, .ref 16, .ref 17, .ref 18, .ref 19, .int (σ 12 7), .int (σ 12 8), .int (σ 12 9)]),
  .inl (0, 40, .inl (σ 13)),
  .inl (0, 40, .inl (σ 14)),
  .inl (0, 40, .inl (σ 15)),
  .inl (0, 40, .inl (σ 16)),
  .inl (0, 40, .inl (σ 17)),
  .inl (0, 120, .inl (σ 18)),
  .inl (0, 900, .inl (σ 19)),
  .inl (0, 320, .inl (σ 20)),
  .inl (0, 8, .inl (σ 21))]
def X0_noteChoice (σ : am_M) : Option am_M := if (σ 1 12) = (-1) then (some σ) else (some (sC (sC σ 0 (am_u (σ 0) 4 ((σ 0 4) + 1))) 20 (jput 320 (σ 20) (σ 0 4) (σ 1 14))))
set_option maxRecDepth 100000 in
set_option maxHeartbeats 4000000 in
theorem c_X0_noteChoice (l : Launch) (σ : am_M) (τ : Nat → Int64) (res : am_M) (h : X0_noteChoice σ = some res) : am_Con l yX0_noteChoice cX0_noteChoice 1 none 2 [.ref 0] (wX0 12 σ τ) (fun (r : Option Value) (w : am_W) => r = none ∧ w = (wX0 12 res τ)) := by
  refine am_metn (n0 := 22) (own := RX0) (cd := am_cdT' tX0_noteChoice) (rf := am_rfL rfX0) (ini := false) rfl (by decide +kernel) rfl (by decide) dX0_noteChoice rfX0_ok (Nat.le_of_ble_eq_true rfl) ?_
  intro V hV
  have hP : (fun (r : Option Value) (w : am_W) => r = none ∧ w = (wX0 12 res τ)) none (wX0 12 res τ) := ⟨rfl, rfl⟩
  show V (wX0 12 σ τ) 0 [(0, .ref 0)] []
  unfold X0_noteChoice at h
  by_cases c1 : (σ 1 12) = (-1)
  · rw [if_pos c1] at h
    refine hV.run 5 [1] (ws' := wX0 12 σ τ) (pc' := 39) (ls' := [(0, .ref 0)]) (st' := []) (ps := [(σ 1 12) = (-1)]) rfl ⟨c1, trivial⟩ ?_
    cases h
    exact hV.rv rfl rfl rfl hP
  · rw [if_neg c1] at h
    refine hV.run 12 [0] (ws' := wX0 12 σ τ) (pc' := 26) (ls' := [(0, .ref 0)]) (st' := [.int (σ 1 14), .int (σ 0 4), .ref 20]) (ps := [¬ (σ 1 12) = (-1)]) rfl ⟨c1, trivial⟩ ?_
    refine hV.cSv (as := [.ref 0, .int (σ 0 4), .int (σ 1 14)]) (js := [20]) (rest := []) (st := [.int (σ 1 14), .int (σ 0 4), .ref 20]) (ws2 := wX0 12 (sC σ 20 (jput 320 (σ 20) (σ 0 4) (σ 1 14))) τ) (pc2 := 29) kX0_86 (c_put l 1 320 (by decide) (σ 20) (σ 0 4) (σ 1 14)) rfl rfl rfl rfl rfl rfl rfl rfl rfl rfl ?_
    refine hV.run 6 [] (ws' := wX0 12 (sC (sC σ 0 (am_u (σ 0) 4 ((σ 0 4) + 1))) 20 (jput 320 (σ 20) (σ 0 4) (σ 1 14))) τ) (pc' := 39) (ls' := [(0, .ref 0)]) (st' := []) (ps := []) rfl trivial ?_
    cases h
    exact hV.rv rfl rfl rfl hP

def X0_lowest_B2 (n : Nat) (kont2 : Int32 → Int32 → Option Int32) (l0 : Int32) (l1 : Int32) : Option Int32 := if 8 ≤ l1 then (some (-1)) else (if ((l0 >>> (l1 &&& 31)) &&& 1) = 1 then (some l1) else (kont2 l0 (l1 + 1)))
def X0_lowest_L2 (n : Nat) : Nat → Int32 → Int32 → Option Int32
 | 0 => fun _ _ => none
 | k + 1 => fun l0 l1 => X0_lowest_B2 n (X0_lowest_L2 n k) l0 l1
set_option maxRecDepth 100000 in
set_option maxHeartbeats 4000000 in
theorem p_X0_lowest_B2 {l : Launch} {Post : Option Value → am_W → Prop} {V : am_VT} (hV : am_B l RX0 false 1 (am_cdT' tX0_lowest) (am_rfL rfX0) (some .int) Post 0 V) (n : Nat) (res : Int32) (hP : Post (some (.int res)) []) (kont2 : Int32 → Int32 → Option Int32) (hk2 : ∀ (l0 : Int32) (l1 : Int32), kont2 l0 l1 = some res → V ([]) 2 [(0, .int l0), (1, .int l1)] []) (l0 : Int32) (l1 : Int32) (h : X0_lowest_B2 n kont2 l0 l1 = some res) : V ([]) 2 [(0, .int l0), (1, .int l1)] [] := by
  unfold X0_lowest_B2 at h
  by_cases c1 : 8 ≤ l1
  · rw [if_pos c1] at h
    refine hV.run 4 [1] (ws' := []) (pc' := 26) (ls' := [(0, .int l0), (1, .int l1)]) (st' := [.int (-1)]) (ps := [8 ≤ l1]) rfl ⟨c1, trivial⟩ ?_
    cases h
    exact hV.ri rfl rfl rfl hP
  · rw [if_neg c1] at h
    by_cases c2 : ((l0 >>> (l1 &&& 31)) &&& 1) = 1
    · rw [if_pos c2] at h
      refine hV.run 11 [0, 0] (ws' := []) (pc' := 18) (ls' := [(0, .int l0), (1, .int l1)]) (st' := [.int l1]) (ps := [¬ 8 ≤ l1, ((l0 >>> (l1 &&& 31)) &&& 1) = 1]) rfl ⟨c1, c2, trivial⟩ ?_
      cases h
      exact hV.ri rfl rfl rfl hP
    · rw [if_neg c2] at h
      refine hV.run 12 [0, 1] (ws' := []) (pc' := 2) (ls' := [(1, .int (l1 + 1)), (0, .int l0)]) (st' := []) (ps := [¬ 8 ≤ l1, ¬ ((l0 >>> (l1 &&& 31)) &&& 1) = 1]) rfl ⟨c1, c2, trivial⟩ ?_
      refine hV.pick [1, 0] (ls' := [(0, .int l0), (1, .int (l1 + 1))]) rfl ?_
      exact hk2 l0 (l1 + 1) h
theorem p_X0_lowest_L2 {l : Launch} {Post : Option Value → am_W → Prop} {V : am_VT} (hV : am_B l RX0 false 1 (am_cdT' tX0_lowest) (am_rfL rfX0) (some .int) Post 0 V) (n : Nat) (res : Int32) (hP : Post (some (.int res)) []) : ∀ (k : Nat) (l0 : Int32) (l1 : Int32) (h : X0_lowest_L2 n k l0 l1 = some res), V ([]) 2 [(0, .int l0), (1, .int l1)] [] := by
  intro k
  induction k with
  | zero => intro l0 l1 h; cases h
  | succ k ih => intro l0 l1 h; exact p_X0_lowest_B2 hV n res hP _ ih l0 l1 h
def X0_lowest (n : Nat) (a1 : Int32) : Option Int32 := X0_lowest_L2 n n a1 0
set_option maxRecDepth 100000 in
set_option maxHeartbeats 4000000 in
theorem c_X0_lowest (l : Launch) (n : Nat) (a1 : Int32) (res : Int32) (h : X0_lowest n a1 = some res) : am_Con l yX0_lowest cX0_lowest 2 (some .int) 1 [.int a1] [] (fun (r : Option Value) (w : am_W) => r = (some (.int res)) ∧ w = []) := by
  refine am_metn (n0 := 0) (own := RX0) (cd := am_cdT' tX0_lowest) (rf := am_rfL rfX0) (ini := false) rfl (by decide +kernel) rfl (by decide) dX0_lowest rfX0_ok (Nat.le_of_ble_eq_true rfl) ?_
  intro V hV
  have hP : (fun (r : Option Value) (w : am_W) => r = (some (.int res)) ∧ w = []) (some (.int res)) [] := ⟨rfl, rfl⟩
  show V [] 0 [(0, .int a1)] []
  unfold X0_lowest at h
  refine hV.run 2 [] (ws' := []) (pc' := 2) (ls' := [(1, .int 0), (0, .int a1)]) (st' := []) (ps := []) rfl trivial ?_
  refine hV.pick [1, 0] (ls' := [(0, .int a1), (1, .int 0)]) rfl ?_
  exact p_X0_lowest_L2 hV n res hP n a1 0 h

def X0_placeInRing_B2 (n : Nat) (σ : am_M) (kont2 : Int32 → Int32 → Int32 → Option Int32) (l1 : Int32) (l2 : Int32) (l3 : Int32) : Option Int32 := if l2 ≤ l3 then (some (-1)) else (if (jat 8 (σ 21) l3) = l1 then (some l3) else (kont2 l1 l2 (l3 + 1)))
def X0_placeInRing_L2 (n : Nat) (σ : am_M) : Nat → Int32 → Int32 → Int32 → Option Int32
 | 0 => fun _ _ _ => none
 | k + 1 => fun l1 l2 l3 => X0_placeInRing_B2 n σ (X0_placeInRing_L2 n σ k) l1 l2 l3
set_option maxRecDepth 100000 in
set_option maxHeartbeats 4000000 in
theorem p_X0_placeInRing_B2 {l : Launch} {Post : Option Value → am_W → Prop} {V : am_VT} (hV : am_B l RX0 false 2 (am_cdT' tX0_placeInRing) (am_rfL rfX0) (some .int) Post 22 V) (n : Nat) (σ : am_M) (τ : Nat → Int64) (res : Int32) (hP : Post (some (.int res)) (wX0 12 σ τ)) (kont2 : Int32 → Int32 → Int32 → Option Int32) (hk2 : ∀ (l1 : Int32) (l2 : Int32) (l3 : Int32), kont2 l1 l2 l3 = some res → V (wX0 12 σ τ) 2 [(0, .ref 0), (1, .int l1), (2, .int l2), (3, .int l3)] []) (l1 : Int32) (l2 : Int32) (l3 : Int32) (h : X0_placeInRing_B2 n σ kont2 l1 l2 l3 = some res) : V (wX0 12 σ τ) 2 [(0, .ref 0), (1, .int l1), (2, .int l2), (3, .int l3)] [] := by
  unfold X0_placeInRing_B2 at h
  by_cases c1 : l2 ≤ l3
  · rw [if_pos c1] at h
    refine hV.run 4 [1] (ws' := wX0 12 σ τ) (pc' := 28) (ls' := [(0, .ref 0), (1, .int l1), (2, .int l2), (3, .int l3)]) (st' := [.int (-1)]) (ps := [l2 ≤ l3]) rfl ⟨c1, trivial⟩ ?_
    cases h
    exact hV.ri rfl rfl rfl hP
  · rw [if_neg c1] at h
    refine hV.run 6 [0] (ws' := wX0 12 σ τ) (pc' := 12) (ls' := [(0, .ref 0), (1, .int l1), (2, .int l2), (3, .int l3)]) (st' := [.int l3, .ref 21]) (ps := [¬ l2 ≤ l3]) rfl ⟨c1, trivial⟩ ?_
    refine hV.cSi (as := [.ref 0, .int l3]) (js := [21]) (rest := []) (st := [.int l3, .ref 21]) (ws2 := wX0 12 σ τ) (pc2 := 15) kX0_112 (c_at l 1 8 (by decide) (σ 21) l3) rfl rfl rfl rfl rfl rfl rfl rfl rfl rfl ?_
    by_cases c2 : (jat 8 (σ 21) l3) = l1
    · rw [if_pos c2] at h
      refine hV.run 3 [0] (ws' := wX0 12 σ τ) (pc' := 20) (ls' := [(0, .ref 0), (1, .int l1), (2, .int l2), (3, .int l3)]) (st' := [.int l3]) (ps := [(jat 8 (σ 21) l3) = l1]) rfl ⟨c2, trivial⟩ ?_
      cases h
      exact hV.ri rfl rfl rfl hP
    · rw [if_neg c2] at h
      refine hV.run 4 [1] (ws' := wX0 12 σ τ) (pc' := 2) (ls' := [(3, .int (l3 + 1)), (0, .ref 0), (1, .int l1), (2, .int l2)]) (st' := []) (ps := [¬ (jat 8 (σ 21) l3) = l1]) rfl ⟨c2, trivial⟩ ?_
      refine hV.pick [1, 2, 3, 0] (ls' := [(0, .ref 0), (1, .int l1), (2, .int l2), (3, .int (l3 + 1))]) rfl ?_
      exact hk2 l1 l2 (l3 + 1) h
theorem p_X0_placeInRing_L2 {l : Launch} {Post : Option Value → am_W → Prop} {V : am_VT} (hV : am_B l RX0 false 2 (am_cdT' tX0_placeInRing) (am_rfL rfX0) (some .int) Post 22 V) (n : Nat) (σ : am_M) (τ : Nat → Int64) (res : Int32) (hP : Post (some (.int res)) (wX0 12 σ τ)) : ∀ (k : Nat) (l1 : Int32) (l2 : Int32) (l3 : Int32) (h : X0_placeInRing_L2 n σ k l1 l2 l3 = some res), V (wX0 12 σ τ) 2 [(0, .ref 0), (1, .int l1), (2, .int l2), (3, .int l3)] [] := by
  intro k
  induction k with
  | zero => intro l1 l2 l3 h; cases h
  | succ k ih => intro l1 l2 l3 h; exact p_X0_placeInRing_B2 hV n σ τ res hP _ ih l1 l2 l3 h
def X0_placeInRing (n : Nat) (σ : am_M) (a1 : Int32) (a2 : Int32) : Option Int32 := X0_placeInRing_L2 n σ n a1 a2 0
set_option maxRecDepth 100000 in
set_option maxHeartbeats 4000000 in
theorem c_X0_placeInRing (l : Launch) (n : Nat) (σ : am_M) (τ : Nat → Int64) (a1 : Int32) (a2 : Int32) (res : Int32) (h : X0_placeInRing n σ a1 a2 = some res) : am_Con l yX0_placeInRing cX0_placeInRing 4 (some .int) 2 [.ref 0, .int a1, .int a2] (wX0 12 σ τ) (fun (r : Option Value) (w : am_W) => r = (some (.int res)) ∧ w = (wX0 12 σ τ)) := by
  refine am_metn (n0 := 22) (own := RX0) (cd := am_cdT' tX0_placeInRing) (rf := am_rfL rfX0) (ini := false) rfl (by decide +kernel) rfl (by decide) dX0_placeInRing rfX0_ok (Nat.le_of_ble_eq_true rfl) ?_
  intro V hV
  have hP : (fun (r : Option Value) (w : am_W) => r = (some (.int res)) ∧ w = (wX0 12 σ τ)) (some (.int res)) (wX0 12 σ τ) := ⟨rfl, rfl⟩
  show V (wX0 12 σ τ) 0 [(0, .ref 0), (1, .int a1), (2, .int a2)] []
  unfold X0_placeInRing at h
  refine hV.run 2 [] (ws' := wX0 12 σ τ) (pc' := 2) (ls' := [(3, .int 0), (0, .ref 0), (1, .int a1), (2, .int a2)]) (st' := []) (ps := []) rfl trivial ?_
  refine hV.pick [1, 2, 3, 0] (ls' := [(0, .ref 0), (1, .int a1), (2, .int a2), (3, .int 0)]) rfl ?_
  exact p_X0_placeInRing_L2 hV n σ τ res hP n a1 a2 0 h

def X0_keepRing_B9 (n : Nat) (kont9 : am_M → Int32 → Int32 → Option am_M) (σ : am_M) (l1 : Int32) (l3 : Int32) : Option am_M := if (σ 0 6) ≤ l3 then (some σ) else (kont9 (sC σ 21 (jput 8 (σ 21) l3 (jat 8 (σ 21) (l1 + l3)))) l1 (l3 + 1))
def X0_keepRing_L9 (n : Nat) : Nat → am_M → Int32 → Int32 → Option am_M
 | 0 => fun _ _ _ => none
 | k + 1 => fun σ l1 l3 => X0_keepRing_B9 n (X0_keepRing_L9 n k) σ l1 l3
set_option maxRecDepth 100000 in
set_option maxHeartbeats 4000000 in
theorem p_X0_keepRing_B9 {l : Launch} {Post : Option Value → am_W → Prop} {V : am_VT} (hV : am_B l RX0 false 2 (am_cdT' tX0_keepRing) (am_rfL rfX0) none Post 22 V) (n : Nat) (τ : Nat → Int64) (res : am_M) (hP : Post none (wX0 12 res τ)) (kont9 : am_M → Int32 → Int32 → Option am_M) (hk9 : ∀ (σ : am_M) (l1 : Int32) (l3 : Int32), kont9 σ l1 l3 = some res → V (wX0 12 σ τ) 9 [(0, .ref 0), (1, .int l1), (3, .int l3)] []) (σ : am_M) (l1 : Int32) (l3 : Int32) (h : X0_keepRing_B9 n kont9 σ l1 l3 = some res) : V (wX0 12 σ τ) 9 [(0, .ref 0), (1, .int l1), (3, .int l3)] [] := by
  unfold X0_keepRing_B9 at h
  by_cases c1 : (σ 0 6) ≤ l3
  · rw [if_pos c1] at h
    refine hV.run 4 [1] (ws' := wX0 12 σ τ) (pc' := 41) (ls' := [(0, .ref 0), (1, .int l1), (3, .int l3)]) (st' := []) (ps := [(σ 0 6) ≤ l3]) rfl ⟨c1, trivial⟩ ?_
    cases h
    exact hV.rv rfl rfl rfl hP
  · rw [if_neg c1] at h
    refine hV.run 12 [0] (ws' := wX0 12 σ τ) (pc' := 29) (ls' := [(0, .ref 0), (1, .int l1), (3, .int l3)]) (st' := [.int (l1 + l3), .ref 21, .int l3, .ref 21]) (ps := [¬ (σ 0 6) ≤ l3]) rfl ⟨c1, trivial⟩ ?_
    refine hV.cSi (as := [.ref 0, .int (l1 + l3)]) (js := [21]) (rest := [.int l3, .ref 21]) (st := [.int (l1 + l3), .ref 21, .int l3, .ref 21]) (ws2 := wX0 12 σ τ) (pc2 := 32) kX0_112 (c_at l 1 8 (by decide) (σ 21) (l1 + l3)) rfl rfl rfl rfl rfl rfl rfl rfl rfl rfl ?_
    refine hV.cSv (as := [.ref 0, .int l3, .int (jat 8 (σ 21) (l1 + l3))]) (js := [21]) (rest := []) (st := [.int (jat 8 (σ 21) (l1 + l3)), .int l3, .ref 21]) (ws2 := wX0 12 (sC σ 21 (jput 8 (σ 21) l3 (jat 8 (σ 21) (l1 + l3)))) τ) (pc2 := 35) kX0_86 (c_put l 1 8 (by decide) (σ 21) l3 (jat 8 (σ 21) (l1 + l3))) rfl rfl rfl rfl rfl rfl rfl rfl rfl rfl ?_
    refine hV.run 2 [] (ws' := wX0 12 (sC σ 21 (jput 8 (σ 21) l3 (jat 8 (σ 21) (l1 + l3)))) τ) (pc' := 9) (ls' := [(3, .int (l3 + 1)), (0, .ref 0), (1, .int l1)]) (st' := []) (ps := []) rfl trivial ?_
    refine hV.pick [1, 2, 0] (ls' := [(0, .ref 0), (1, .int l1), (3, .int (l3 + 1))]) rfl ?_
    exact hk9 (sC σ 21 (jput 8 (σ 21) l3 (jat 8 (σ 21) (l1 + l3)))) l1 (l3 + 1) h
theorem p_X0_keepRing_L9 {l : Launch} {Post : Option Value → am_W → Prop} {V : am_VT} (hV : am_B l RX0 false 2 (am_cdT' tX0_keepRing) (am_rfL rfX0) none Post 22 V) (n : Nat) (τ : Nat → Int64) (res : am_M) (hP : Post none (wX0 12 res τ)) : ∀ (k : Nat) (σ : am_M) (l1 : Int32) (l3 : Int32) (h : X0_keepRing_L9 n k σ l1 l3 = some res), V (wX0 12 σ τ) 9 [(0, .ref 0), (1, .int l1), (3, .int l3)] [] := by
  intro k
  induction k with
  | zero => intro σ l1 l3 h; cases h
  | succ k ih => intro σ l1 l3 h; exact p_X0_keepRing_B9 hV n τ res hP _ ih σ l1 l3 h
def X0_keepRing (n : Nat) (σ : am_M) (a1 : Int32) (a2 : Int32) : Option am_M := X0_keepRing_L9 n n (sC σ 0 (am_u (σ 0) 6 (a2 - a1))) a1 0
set_option maxRecDepth 100000 in
set_option maxHeartbeats 4000000 in
theorem c_X0_keepRing (l : Launch) (n : Nat) (σ : am_M) (τ : Nat → Int64) (a1 : Int32) (a2 : Int32) (res : am_M) (h : X0_keepRing n σ a1 a2 = some res) : am_Con l yX0_keepRing cX0_keepRing 4 none 2 [.ref 0, .int a1, .int a2] (wX0 12 σ τ) (fun (r : Option Value) (w : am_W) => r = none ∧ w = (wX0 12 res τ)) := by
  refine am_metn (n0 := 22) (own := RX0) (cd := am_cdT' tX0_keepRing) (rf := am_rfL rfX0) (ini := false) rfl (by decide +kernel) rfl (by decide) dX0_keepRing rfX0_ok (Nat.le_of_ble_eq_true rfl) ?_
  intro V hV
  have hP : (fun (r : Option Value) (w : am_W) => r = none ∧ w = (wX0 12 res τ)) none (wX0 12 res τ) := ⟨rfl, rfl⟩
  show V (wX0 12 σ τ) 0 [(0, .ref 0), (1, .int a1), (2, .int a2)] []
  unfold X0_keepRing at h
  refine hV.run 7 [] (ws' := wX0 12 (sC σ 0 (am_u (σ 0) 6 (a2 - a1))) τ) (pc' := 9) (ls' := [(3, .int 0), (0, .ref 0), (1, .int a1), (2, .int a2)]) (st' := []) (ps := []) rfl trivial ?_
  refine hV.pick [1, 2, 0] (ls' := [(0, .ref 0), (1, .int a1), (3, .int 0)]) rfl ?_
  exact p_X0_keepRing_L9 hV n τ res hP n (sC σ 0 (am_u (σ 0) 6 (a2 - a1))) a1 0 h

