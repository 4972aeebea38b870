def wX6 (σ : am_M) : am_W := [.inr (6, [.ref 1, .ref 2, .ref 3, .ref 4, .int (σ 0 4)]),
  .inl (0, 320, .inl (σ 1)),
  .inl (0, 320, .inl (σ 2)),
  .inl (0, 320, .inl (σ 3)),
  .inl (0, 320, .inl (σ 4))]
def X6_pair (a1 : Int32) (a2 : Int32) : Int32 := ((a1 * 8) + a2)
set_option maxRecDepth 100000 in
set_option maxHeartbeats 4000000 in
theorem c_X6_pair (l : Launch) (a1 : Int32) (a2 : Int32) : am_Con l yX6_pair cX6_pair 2 (some .int) 1 [.int a1, .int a2] [] (fun (r : Option Value) (w : am_W) => r = (some (.int (X6_pair a1 a2))) ∧ w = []) := by
  obtain ⟨res, h⟩ : ∃ res, (X6_pair a1 a2) = res := ⟨_, rfl⟩
  rw [h]
  refine am_metn (n0 := 0) (own := RX6) (cd := am_cdT' tX6_pair) (rf := am_rfL rfX6) (ini := false) rfl (by decide +kernel) rfl (by decide) dX6_pair rfX6_ok (Nat.le_of_ble_eq_true rfl) ?_
  intro V hV
  have hP : (fun (r : Option Value) (w : am_W) => r = (some (.int res)) ∧ w = []) (some (.int res)) [] := ⟨rfl, rfl⟩
  show V [] 0 [(0, .int a1), (1, .int a2)] []
  unfold X6_pair at h
  refine hV.run 5 [] (ws' := []) (pc' := 6) (ls' := [(0, .int a1), (1, .int a2)]) (st' := [.int ((a1 * 8) + a2)]) (ps := []) rfl trivial ?_
  subst h
  exact hV.ri rfl rfl rfl hP

def X6_pairAt (σ : am_M) (a1 : Int32) : Int32 := ((jat 320 (σ 1) a1) >>> 8)
set_option maxRecDepth 100000 in
set_option maxHeartbeats 4000000 in
theorem c_X6_pairAt (l : Launch) (σ : am_M) (a1 : Int32) : am_Con l yX6_pairAt cX6_pairAt 2 (some .int) 2 [.ref 0, .int a1] (wX6 σ) (fun (r : Option Value) (w : am_W) => r = (some (.int (X6_pairAt σ a1))) ∧ w = (wX6 σ)) := by
  obtain ⟨res, h⟩ : ∃ res, (X6_pairAt σ a1) = res := ⟨_, rfl⟩
  rw [h]
  refine am_metn (n0 := 5) (own := RX6) (cd := am_cdT' tX6_pairAt) (rf := am_rfL rfX6) (ini := false) rfl (by decide +kernel) rfl (by decide) dX6_pairAt rfX6_ok (Nat.le_of_ble_eq_true rfl) ?_
  intro V hV
  have hP : (fun (r : Option Value) (w : am_W) => r = (some (.int res)) ∧ w = (wX6 σ)) (some (.int res)) (wX6 σ) := ⟨rfl, rfl⟩
  show V (wX6 σ) 0 [(0, .ref 0), (1, .int a1)] []
  unfold X6_pairAt at h
  refine hV.run 3 [] (ws' := wX6 σ) (pc' := 5) (ls' := [(0, .ref 0), (1, .int a1)]) (st' := [.int a1, .ref 1]) (ps := []) rfl trivial ?_
  refine hV.cSi (as := [.ref 0, .int a1]) (js := [1]) (rest := []) (st := [.int a1, .ref 1]) (ws2 := wX6 σ) (pc2 := 8) kX6_24 (c_at l 1 320 (by decide) (σ 1) a1) rfl rfl rfl rfl rfl rfl rfl rfl rfl rfl ?_
  refine hV.run 2 [] (ws' := wX6 σ) (pc' := 11) (ls' := [(0, .ref 0), (1, .int a1)]) (st' := [.int ((jat 320 (σ 1) a1) >>> 8)]) (ps := []) rfl trivial ?_
  subst h
  exact hV.ri rfl rfl rfl hP

def X6_senderAt (σ : am_M) (a1 : Int32) : Int32 := ((X6_pairAt σ a1) / 8)
set_option maxRecDepth 100000 in
set_option maxHeartbeats 4000000 in
theorem c_X6_senderAt (l : Launch) (σ : am_M) (a1 : Int32) : am_Con l yX6_senderAt cX6_senderAt 2 (some .int) 3 [.ref 0, .int a1] (wX6 σ) (fun (r : Option Value) (w : am_W) => r = (some (.int (X6_senderAt σ a1))) ∧ w = (wX6 σ)) := by
  obtain ⟨res, h⟩ : ∃ res, (X6_senderAt σ a1) = res := ⟨_, rfl⟩
  rw [h]
  refine am_metn (n0 := 5) (own := RX6) (cd := am_cdT' tX6_senderAt) (rf := am_rfL rfX6) (ini := false) rfl (by decide +kernel) rfl (by decide) dX6_senderAt rfX6_ok (Nat.le_of_ble_eq_true rfl) ?_
  intro V hV
  have hP : (fun (r : Option Value) (w : am_W) => r = (some (.int res)) ∧ w = (wX6 σ)) (some (.int res)) (wX6 σ) := ⟨rfl, rfl⟩
  show V (wX6 σ) 0 [(0, .ref 0), (1, .int a1)] []
  unfold X6_senderAt at h
  refine hV.run 2 [] (ws' := wX6 σ) (pc' := 2) (ls' := [(0, .ref 0), (1, .int a1)]) (st' := [.int a1, .ref 0]) (ps := []) rfl trivial ?_
  refine hV.cOi (as := [.int a1]) (rest := []) (st := [.int a1, .ref 0]) (ws2 := wX6 σ) (pc2 := 5) kX6_28 (c_X6_pairAt l σ a1) rfl rfl rfl rfl rfl rfl rfl rfl rfl ?_
  refine hV.run 2 [] (ws' := wX6 σ) (pc' := 8) (ls' := [(0, .ref 0), (1, .int a1)]) (st' := [.int ((X6_pairAt σ a1) / 8)]) (ps := [¬ (8 : Int32) = 0]) rfl ⟨(by decide), trivial⟩ ?_
  subst h
  exact hV.ri rfl rfl rfl hP

def X6_sizeAt (σ : am_M) (a1 : Int32) : Int32 := (((jat 320 (σ 1) a1) >>> 1) &&& 127)
set_option maxRecDepth 100000 in
set_option maxHeartbeats 4000000 in
theorem c_X6_sizeAt (l : Launch) (σ : am_M) (a1 : Int32) : am_Con l yX6_sizeAt cX6_sizeAt 2 (some .int) 2 [.ref 0, .int a1] (wX6 σ) (fun (r : Option Value) (w : am_W) => r = (some (.int (X6_sizeAt σ a1))) ∧ w = (wX6 σ)) := by
  obtain ⟨res, h⟩ : ∃ res, (X6_sizeAt σ a1) = res := ⟨_, rfl⟩
  rw [h]
  refine am_metn (n0 := 5) (own := RX6) (cd := am_cdT' tX6_sizeAt) (rf := am_rfL rfX6) (ini := false) rfl (by decide +kernel) rfl (by decide) dX6_sizeAt rfX6_ok (Nat.le_of_ble_eq_true rfl) ?_
  intro V hV
  have hP : (fun (r : Option Value) (w : am_W) => r = (some (.int res)) ∧ w = (wX6 σ)) (some (.int res)) (wX6 σ) := ⟨rfl, rfl⟩
  show V (wX6 σ) 0 [(0, .ref 0), (1, .int a1)] []
  unfold X6_sizeAt at h
  refine hV.run 3 [] (ws' := wX6 σ) (pc' := 5) (ls' := [(0, .ref 0), (1, .int a1)]) (st' := [.int a1, .ref 1]) (ps := []) rfl trivial ?_
  refine hV.cSi (as := [.ref 0, .int a1]) (js := [1]) (rest := []) (st := [.int a1, .ref 1]) (ws2 := wX6 σ) (pc2 := 8) kX6_24 (c_at l 1 320 (by decide) (σ 1) a1) rfl rfl rfl rfl rfl rfl rfl rfl rfl rfl ?_
  refine hV.run 4 [] (ws' := wX6 σ) (pc' := 13) (ls' := [(0, .ref 0), (1, .int a1)]) (st' := [.int (((jat 320 (σ 1) a1) >>> 1) &&& 127)]) (ps := []) rfl trivial ?_
  subst h
  exact hV.ri rfl rfl rfl hP

def X6_begunAt (σ : am_M) (a1 : Int32) : Bool := if ((jat 320 (σ 1) a1) &&& 1) = 1 then (true) else (false)
set_option maxRecDepth 100000 in
set_option maxHeartbeats 4000000 in
theorem c_X6_begunAt (l : Launch) (σ : am_M) (a1 : Int32) : am_Con l yX6_begunAt cX6_begunAt 2 (some .boolean) 2 [.ref 0, .int a1] (wX6 σ) (fun (r : Option Value) (w : am_W) => r = (some (.int (b2i (X6_begunAt σ a1)))) ∧ w = (wX6 σ)) := by
  obtain ⟨res, h⟩ : ∃ res, (X6_begunAt σ a1) = res := ⟨_, rfl⟩
  rw [h]
  refine am_metn (n0 := 5) (own := RX6) (cd := am_cdT' tX6_begunAt) (rf := am_rfL rfX6) (ini := false) rfl (by decide +kernel) rfl (by decide) dX6_begunAt rfX6_ok (Nat.le_of_ble_eq_true rfl) ?_
  intro V hV
  have hP : (fun (r : Option Value) (w : am_W) => r = (some (.int (b2i res))) ∧ w = (wX6 σ)) (some (.int (b2i res))) (wX6 σ) := ⟨rfl, rfl⟩
  show V (wX6 σ) 0 [(0, .ref 0), (1, .int a1)] []
  unfold X6_begunAt at h
  refine hV.run 3 [] (ws' := wX6 σ) (pc' := 5) (ls' := [(0, .ref 0), (1, .int a1)]) (st' := [.int a1, .ref 1]) (ps := []) rfl trivial ?_
  refine hV.cSi (as := [.ref 0, .int a1]) (js := [1]) (rest := []) (st := [.int a1, .ref 1]) (ws2 := wX6 σ) (pc2 := 8) kX6_24 (c_at l 1 320 (by decide) (σ 1) a1) rfl rfl rfl rfl rfl rfl rfl rfl rfl rfl ?_
  by_cases c1 : ((jat 320 (σ 1) a1) &&& 1) = 1
  · rw [if_pos c1] at h
    refine hV.run 6 [0] (ws' := wX6 σ) (pc' := 19) (ls' := [(0, .ref 0), (1, .int a1)]) (st' := [.int 1]) (ps := [((jat 320 (σ 1) a1) &&& 1) = 1]) rfl ⟨c1, trivial⟩ ?_
    subst h
    exact hV.rz rfl rfl rfl (Or.inr rfl) hP
  · rw [if_neg c1] at h
    refine hV.run 5 [1] (ws' := wX6 σ) (pc' := 19) (ls' := [(0, .ref 0), (1, .int a1)]) (st' := [.int 0]) (ps := [¬ ((jat 320 (σ 1) a1) &&& 1) = 1]) rfl ⟨c1, trivial⟩ ?_
    subst h
    exact hV.rz rfl rfl rfl (Or.inl rfl) hP

def X6_first_J46 (n : Nat) (σ : am_M) (kont10 : Int32 → Int32 → Int32 → Option Int32) (l3 : Int32) (l4 : Int32) (l5 : Int32) : Option Int32 := kont10 l3 l4 (l5 + 1)
set_option maxRecDepth 100000 in
set_option maxHeartbeats 4000000 in
theorem p_X6_first_J46 {l : Launch} {Post : Option Value → am_W → Prop} {V : am_VT} (hV : am_B l RX6 false 3 (am_cdT' tX6_first) (am_rfL rfX6) (some .int) Post 5 V) (n : Nat) (σ : am_M) (res : Int32) (hP : Post (some (.int res)) (wX6 σ)) (kont10 : Int32 → Int32 → Int32 → Option Int32) (hk10 : ∀ (l3 : Int32) (l4 : Int32) (l5 : Int32), kont10 l3 l4 l5 = some res → V (wX6 σ) 10 [(0, .ref 0), (3, .int l3), (4, .int l4), (5, .int l5)] []) (l3 : Int32) (l4 : Int32) (l5 : Int32) (h : X6_first_J46 n σ kont10 l3 l4 l5 = some res) : V (wX6 σ) 46 [(0, .ref 0), (3, .int l3), (4, .int l4), (5, .int l5)] [] := by
  unfold X6_first_J46 at h
  refine hV.run 2 [] (ws' := wX6 σ) (pc' := 10) (ls' := [(5, .int (l5 + 1)), (0, .ref 0), (3, .int l3), (4, .int l4)]) (st' := []) (ps := []) rfl trivial ?_
  refine hV.pick [1, 2, 3, 0] (ls' := [(0, .ref 0), (3, .int l3), (4, .int l4), (5, .int (l5 + 1))]) rfl ?_
  exact hk10 l3 l4 (l5 + 1) h
def X6_first_B10 (n : Nat) (σ : am_M) (kont10 : Int32 → Int32 → Int32 → Option Int32) (l3 : Int32) (l4 : Int32) (l5 : Int32) : Option Int32 := if (σ 0 4) ≤ l5 then (some (-1)) else (if (X6_pairAt σ l5) = l4 then (if (jat 320 (σ 2) l5) = l3 then (some l5) else (X6_first_J46 n σ kont10 l3 l4 l5)) else (X6_first_J46 n σ kont10 l3 l4 l5))
def X6_first_L10 (n : Nat) (σ : am_M) : Nat → Int32 → Int32 → Int32 → Option Int32
 | 0 => fun _ _ _ => none
 | k + 1 => fun l3 l4 l5 => X6_first_B10 n σ (X6_first_L10 n σ k) l3 l4 l5
set_option maxRecDepth 100000 in
set_option maxHeartbeats 4000000 in
theorem p_X6_first_B10 {l : Launch} {Post : Option Value → am_W → Prop} {V : am_VT} (hV : am_B l RX6 false 3 (am_cdT' tX6_first) (am_rfL rfX6) (some .int) Post 5 V) (n : Nat) (σ : am_M) (res : Int32) (hP : Post (some (.int res)) (wX6 σ)) (kont10 : Int32 → Int32 → Int32 → Option Int32) (hk10 : ∀ (l3 : Int32) (l4 : Int32) (l5 : Int32), kont10 l3 l4 l5 = some res → V (wX6 σ) 10 [(0, .ref 0), (3, .int l3), (4, .int l4), (5, .int l5)] []) (l3 : Int32) (l4 : Int32) (l5 : Int32) (h : X6_first_B10 n σ kont10 l3 l4 l5 = some res) : V (wX6 σ) 10 [(0, .ref 0), (3, .int l3), (4, .int l4), (5, .int l5)] [] := by
  unfold X6_first_B10 at h
  by_cases c1 : (σ 0 4) ≤ l5
  · rw [if_pos c1] at h
    refine hV.run 5 [1] (ws' := wX6 σ) (pc' := 53) (ls' := [(0, .ref 0), (3, .int l3), (4, .int l4), (5, .int l5)]) (st' := [.int (-1)]) (ps := [(σ 0 4) ≤ l5]) rfl ⟨c1, trivial⟩ ?_
    cases h
    exact hV.ri rfl rfl rfl hP
  · rw [if_neg c1] at h
    refine hV.run 6 [0] (ws' := wX6 σ) (pc' := 22) (ls' := [(0, .ref 0), (3, .int l3), (4, .int l4), (5, .int l5)]) (st' := [.int l5, .ref 0]) (ps := [¬ (σ 0 4) ≤ l5]) rfl ⟨c1, trivial⟩ ?_
    refine hV.cOi (as := [.int l5]) (rest := []) (st := [.int l5, .ref 0]) (ws2 := wX6 σ) (pc2 := 25) kX6_28 (c_X6_pairAt l σ l5) rfl rfl rfl rfl rfl rfl rfl rfl rfl ?_
    by_cases c2 : (X6_pairAt σ l5) = l4
    · rw [if_pos c2] at h
      refine hV.run 5 [0] (ws' := wX6 σ) (pc' := 36) (ls' := [(0, .ref 0), (3, .int l3), (4, .int l4), (5, .int l5)]) (st' := [.int l5, .ref 2]) (ps := [(X6_pairAt σ l5) = l4]) rfl ⟨c2, trivial⟩ ?_
      refine hV.cSi (as := [.ref 0, .int l5]) (js := [2]) (rest := []) (st := [.int l5, .ref 2]) (ws2 := wX6 σ) (pc2 := 39) kX6_24 (c_at l 1 320 (by decide) (σ 2) l5) rfl rfl rfl rfl rfl rfl rfl rfl rfl rfl ?_
      by_cases c3 : (jat 320 (σ 2) l5) = l3
      · rw [if_pos c3] at h
        refine hV.run 3 [0] (ws' := wX6 σ) (pc' := 45) (ls' := [(0, .ref 0), (3, .int l3), (4, .int l4), (5, .int l5)]) (st' := [.int l5]) (ps := [(jat 320 (σ 2) l5) = l3]) rfl ⟨c3, trivial⟩ ?_
        cases h
        exact hV.ri rfl rfl rfl hP
      · rw [if_neg c3] at h
        refine hV.run 2 [1] (ws' := wX6 σ) (pc' := 46) (ls' := [(0, .ref 0), (3, .int l3), (4, .int l4), (5, .int l5)]) (st' := []) (ps := [¬ (jat 320 (σ 2) l5) = l3]) rfl ⟨c3, trivial⟩ ?_
        exact p_X6_first_J46 hV n σ res hP kont10 hk10 l3 l4 l5 h
    · rw [if_neg c2] at h
      refine hV.run 2 [1] (ws' := wX6 σ) (pc' := 46) (ls' := [(0, .ref 0), (3, .int l3), (4, .int l4), (5, .int l5)]) (st' := []) (ps := [¬ (X6_pairAt σ l5) = l4]) rfl ⟨c2, trivial⟩ ?_
      exact p_X6_first_J46 hV n σ res hP kont10 hk10 l3 l4 l5 h
theorem p_X6_first_L10 {l : Launch} {Post : Option Value → am_W → Prop} {V : am_VT} (hV : am_B l RX6 false 3 (am_cdT' tX6_first) (am_rfL rfX6) (some .int) Post 5 V) (n : Nat) (σ : am_M) (res : Int32) (hP : Post (some (.int res)) (wX6 σ)) : ∀ (k : Nat) (l3 : Int32) (l4 : Int32) (l5 : Int32) (h : X6_first_L10 n σ k l3 l4 l5 = some res), V (wX6 σ) 10 [(0, .ref 0), (3, .int l3), (4, .int l4), (5, .int l5)] [] := by
  intro k
  induction k with
  | zero => intro l3 l4 l5 h; cases h
  | succ k ih => intro l3 l4 l5 h; exact p_X6_first_B10 hV n σ res hP _ ih l3 l4 l5 h
def X6_first (n : Nat) (σ : am_M) (a1 : Int32) (a2 : Int32) (a3 : Int32) : Option Int32 := X6_first_L10 n σ n a3 (X6_pair a1 a2) 0
set_option maxRecDepth 100000 in
set_option maxHeartbeats 4000000 in
theorem c_X6_first (l : Launch) (n : Nat) (σ : am_M) (a1 : Int32) (a2 : Int32) (a3 : Int32) (res : Int32) (h : X6_first n σ a1 a2 a3 = some res) : am_Con l yX6_first cX6_first 6 (some .int) 3 [.ref 0, .int a1, .int a2, .int a3] (wX6 σ) (fun (r : Option Value) (w : am_W) => r = (some (.int res)) ∧ w = (wX6 σ)) := by
  refine am_metn (n0 := 5) (own := RX6) (cd := am_cdT' tX6_first) (rf := am_rfL rfX6) (ini := false) rfl (by decide +kernel) rfl (by decide) dX6_first rfX6_ok (Nat.le_of_ble_eq_true rfl) ?_
  intro V hV
  have hP : (fun (r : Option Value) (w : am_W) => r = (some (.int res)) ∧ w = (wX6 σ)) (some (.int res)) (wX6 σ) := ⟨rfl, rfl⟩
  show V (wX6 σ) 0 [(0, .ref 0), (1, .int a1), (2, .int a2), (3, .int a3)] []
  unfold X6_first at h
  refine hV.run 2 [] (ws' := wX6 σ) (pc' := 2) (ls' := [(0, .ref 0), (1, .int a1), (2, .int a2), (3, .int a3)]) (st' := [.int a2, .int a1]) (ps := []) rfl trivial ?_
  refine hV.cSi (as := [.int a1, .int a2]) (js := []) (rest := []) (st := [.int a2, .int a1]) (ws2 := wX6 σ) (pc2 := 5) kX6_32 (c_X6_pair l a1 a2) rfl rfl rfl rfl rfl rfl rfl rfl rfl rfl ?_
  refine hV.run 3 [] (ws' := wX6 σ) (pc' := 10) (ls' := [(5, .int 0), (4, .int (X6_pair a1 a2)), (0, .ref 0), (1, .int a1), (2, .int a2), (3, .int a3)]) (st' := []) (ps := []) rfl trivial ?_
  refine hV.pick [2, 5, 1, 0] (ls' := [(0, .ref 0), (3, .int a3), (4, .int (X6_pair a1 a2)), (5, .int 0)]) rfl ?_
  exact p_X6_first_L10 hV n σ res hP n a3 (X6_pair a1 a2) 0 h

def X6_sentBetween_J43 (n : Nat) (σ : am_M) (kont12 : Int32 → Int32 → Int32 → Option Int32) (l3 : Int32) (l4 : Int32) (l5 : Int32) : Option Int32 := kont12 l3 l4 (l5 + 1)
set_option maxRecDepth 100000 in
set_option maxHeartbeats 4000000 in
theorem p_X6_sentBetween_J43 {l : Launch} {Post : Option Value → am_W → Prop} {V : am_VT} (hV : am_B l RX6 false 3 (am_cdT' tX6_sentBetween) (am_rfL rfX6) (some .int) Post 5 V) (n : Nat) (σ : am_M) (res : Int32) (hP : Post (some (.int res)) (wX6 σ)) (kont12 : Int32 → Int32 → Int32 → Option Int32) (hk12 : ∀ (l3 : Int32) (l4 : Int32) (l5 : Int32), kont12 l3 l4 l5 = some res → V (wX6 σ) 12 [(0, .ref 0), (3, .int l3), (4, .int l4), (5, .int l5)] []) (l3 : Int32) (l4 : Int32) (l5 : Int32) (h : X6_sentBetween_J43 n σ kont12 l3 l4 l5 = some res) : V (wX6 σ) 43 [(0, .ref 0), (3, .int l3), (4, .int l4), (5, .int l5)] [] := by
  unfold X6_sentBetween_J43 at h
  refine hV.run 2 [] (ws' := wX6 σ) (pc' := 12) (ls' := [(5, .int (l5 + 1)), (0, .ref 0), (3, .int l3), (4, .int l4)]) (st' := []) (ps := []) rfl trivial ?_
  refine hV.pick [1, 2, 3, 0] (ls' := [(0, .ref 0), (3, .int l3), (4, .int l4), (5, .int (l5 + 1))]) rfl ?_
  exact hk12 l3 l4 (l5 + 1) h
def X6_sentBetween_B12 (n : Nat) (σ : am_M) (kont12 : Int32 → Int32 → Int32 → Option Int32) (l3 : Int32) (l4 : Int32) (l5 : Int32) : Option Int32 := if (σ 0 4) ≤ l5 then (some l4) else (if (X6_pairAt σ l5) = l3 then (if (X6_begunAt σ l5) = true then (X6_sentBetween_J43 n σ kont12 l3 l4 l5) else (X6_sentBetween_J43 n σ kont12 l3 (l4 + 1) l5)) else (X6_sentBetween_J43 n σ kont12 l3 l4 l5))
def X6_sentBetween_L12 (n : Nat) (σ : am_M) : Nat → Int32 → Int32 → Int32 → Option Int32
 | 0 => fun _ _ _ => none
 | k + 1 => fun l3 l4 l5 => X6_sentBetween_B12 n σ (X6_sentBetween_L12 n σ k) l3 l4 l5
set_option maxRecDepth 100000 in
set_option maxHeartbeats 4000000 in
theorem p_X6_sentBetween_B12 {l : Launch} {Post : Option Value → am_W → Prop} {V : am_VT} (hV : am_B l RX6 false 3 (am_cdT' tX6_sentBetween) (am_rfL rfX6) (some .int) Post 5 V) (n : Nat) (σ : am_M) (res : Int32) (hP : Post (some (.int res)) (wX6 σ)) (kont12 : Int32 → Int32 → Int32 → Option Int32) (hk12 : ∀ (l3 : Int32) (l4 : Int32) (l5 : Int32), kont12 l3 l4 l5 = some res → V (wX6 σ) 12 [(0, .ref 0), (3, .int l3), (4, .int l4), (5, .int l5)] []) (l3 : Int32) (l4 : Int32) (l5 : Int32) (h : X6_sentBetween_B12 n σ kont12 l3 l4 l5 = some res) : V (wX6 σ) 12 [(0, .ref 0), (3, .int l3), (4, .int l4), (5, .int l5)] [] := by
  unfold X6_sentBetween_B12 at h
  by_cases c1 : (σ 0 4) ≤ l5
  · rw [if_pos c1] at h
    refine hV.run 5 [1] (ws' := wX6 σ) (pc' := 51) (ls' := [(0, .ref 0), (3, .int l3), (4, .int l4), (5, .int l5)]) (st' := [.int l4]) (ps := [(σ 0 4) ≤ l5]) rfl ⟨c1, trivial⟩ ?_
    cases h
    exact hV.ri rfl rfl rfl hP
  · rw [if_neg c1] at h
    refine hV.run 6 [0] (ws' := wX6 σ) (pc' := 24) (ls' := [(0, .ref 0), (3, .int l3), (4, .int l4), (5, .int l5)]) (st' := [.int l5, .ref 0]) (ps := [¬ (σ 0 4) ≤ l5]) rfl ⟨c1, trivial⟩ ?_
    refine hV.cOi (as := [.int l5]) (rest := []) (st := [.int l5, .ref 0]) (ws2 := wX6 σ) (pc2 := 27) kX6_28 (c_X6_pairAt l σ l5) rfl rfl rfl rfl rfl rfl rfl rfl rfl ?_
    by_cases c2 : (X6_pairAt σ l5) = l3
    · rw [if_pos c2] at h
      refine hV.run 4 [0] (ws' := wX6 σ) (pc' := 34) (ls' := [(0, .ref 0), (3, .int l3), (4, .int l4), (5, .int l5)]) (st' := [.int l5, .ref 0]) (ps := [(X6_pairAt σ l5) = l3]) rfl ⟨c2, trivial⟩ ?_
      refine hV.cOi (as := [.int l5]) (rest := []) (st := [.int l5, .ref 0]) (ws2 := wX6 σ) (pc2 := 37) kX6_40 (c_X6_begunAt l σ l5) rfl rfl rfl rfl rfl rfl rfl rfl rfl ?_
      by_cases c3 : (X6_begunAt σ l5) = true
      · rw [if_pos c3] at h
        refine hV.run 1 [1] (ws' := wX6 σ) (pc' := 43) (ls' := [(0, .ref 0), (3, .int l3), (4, .int l4), (5, .int l5)]) (st' := []) (ps := [¬ (b2i (X6_begunAt σ l5)) = 0]) rfl ⟨(b2i_t c3), trivial⟩ ?_
        exact p_X6_sentBetween_J43 hV n σ res hP kont12 hk12 l3 l4 l5 h
      · rw [if_neg c3] at h
        refine hV.run 2 [0] (ws' := wX6 σ) (pc' := 43) (ls' := [(4, .int (l4 + 1)), (0, .ref 0), (3, .int l3), (5, .int l5)]) (st' := []) (ps := [(b2i (X6_begunAt σ l5)) = 0]) rfl ⟨(b2i_f c3), trivial⟩ ?_
        refine hV.pick [1, 2, 0, 3] (ls' := [(0, .ref 0), (3, .int l3), (4, .int (l4 + 1)), (5, .int l5)]) rfl ?_
        exact p_X6_sentBetween_J43 hV n σ res hP kont12 hk12 l3 (l4 + 1) l5 h
    · rw [if_neg c2] at h
      refine hV.run 2 [1] (ws' := wX6 σ) (pc' := 43) (ls' := [(0, .ref 0), (3, .int l3), (4, .int l4), (5, .int l5)]) (st' := []) (ps := [¬ (X6_pairAt σ l5) = l3]) rfl ⟨c2, trivial⟩ ?_
      exact p_X6_sentBetween_J43 hV n σ res hP kont12 hk12 l3 l4 l5 h
theorem p_X6_sentBetween_L12 {l : Launch} {Post : Option Value → am_W → Prop} {V : am_VT} (hV : am_B l RX6 false 3 (am_cdT' tX6_sentBetween) (am_rfL rfX6) (some .int) Post 5 V) (n : Nat) (σ : am_M) (res : Int32) (hP : Post (some (.int res)) (wX6 σ)) : ∀ (k : Nat) (l3 : Int32) (l4 : Int32) (l5 : Int32) (h : X6_sentBetween_L12 n σ k l3 l4 l5 = some res), V (wX6 σ) 12 [(0, .ref 0), (3, .int l3), (4, .int l4), (5, .int l5)] [] := by
  intro k
  induction k with
  | zero => intro l3 l4 l5 h; cases h
  | succ k ih => intro l3 l4 l5 h; exact p_X6_sentBetween_B12 hV n σ res hP _ ih l3 l4 l5 h
def X6_sentBetween (n : Nat) (σ : am_M) (a1 : Int32) (a2 : Int32) : Option Int32 := X6_sentBetween_L12 n σ n (X6_pair a1 a2) 0 0
set_option maxRecDepth 100000 in
set_option maxHeartbeats 4000000 in
theorem c_X6_sentBetween (l : Launch) (n : Nat) (σ : am_M) (a1 : Int32) (a2 : Int32) (res : Int32) (h : X6_sentBetween n σ a1 a2 = some res) : am_Con l yX6_sentBetween cX6_sentBetween 6 (some .int) 3 [.ref 0, .int a1, .int a2] (wX6 σ) (fun (r : Option Value) (w : am_W) => r = (some (.int res)) ∧ w = (wX6 σ)) := by
  refine am_metn (n0 := 5) (own := RX6) (cd := am_cdT' tX6_sentBetween) (rf := am_rfL rfX6) (ini := false) rfl (by decide +kernel) rfl (by decide) dX6_sentBetween rfX6_ok (Nat.le_of_ble_eq_true rfl) ?_
  intro V hV
  have hP : (fun (r : Option Value) (w : am_W) => r = (some (.int res)) ∧ w = (wX6 σ)) (some (.int res)) (wX6 σ) := ⟨rfl, rfl⟩
  show V (wX6 σ) 0 [(0, .ref 0), (1, .int a1), (2, .int a2)] []
  unfold X6_sentBetween at h
  refine hV.run 2 [] (ws' := wX6 σ) (pc' := 2) (ls' := [(0, .ref 0), (1, .int a1), (2, .int a2)]) (st' := [.int a2, .int a1]) (ps := []) rfl trivial ?_
  refine hV.cSi (as := [.int a1, .int a2]) (js := []) (rest := []) (st := [.int a2, .int a1]) (ws2 := wX6 σ) (pc2 := 5) kX6_32 (c_X6_pair l a1 a2) rfl rfl rfl rfl rfl rfl rfl rfl rfl rfl ?_
  refine hV.run 5 [] (ws' := wX6 σ) (pc' := 12) (ls' := [(5, .int 0), (4, .int 0), (3, .int (X6_pair a1 a2)), (0, .ref 0), (1, .int a1), (2, .int a2)]) (st' := []) (ps := []) rfl trivial ?_
  refine hV.pick [3, 2, 1, 0] (ls' := [(0, .ref 0), (3, .int (X6_pair a1 a2)), (4, .int 0), (5, .int 0)]) rfl ?_
  exact p_X6_sentBetween_L12 hV n σ res hP n (X6_pair a1 a2) 0 0 h

def X6_begunBy_J42 (n : Nat) (σ : am_M) (kont4 : Int32 → Int32 → Int32 → Option Int32) (l1 : Int32) (l2 : Int32) (l3 : Int32) : Option Int32 := kont4 l1 l2 (l3 + 1)
set_option maxRecDepth 100000 in
set_option maxHeartbeats 4000000 in
theorem p_X6_begunBy_J42 {l : Launch} {Post : Option Value → am_W → Prop} {V : am_VT} (hV : am_B l RX6 false 4 (am_cdT' tX6_begunBy) (am_rfL rfX6) (some .int) Post 5 V) (n : Nat) (σ : am_M) (res : Int32) (hP : Post (some (.int res)) (wX6 σ)) (kont4 : Int32 → Int32 → Int32 → Option Int32) (hk4 : ∀ (l1 : Int32) (l2 : Int32) (l3 : Int32), kont4 l1 l2 l3 = some res → V (wX6 σ) 4 [(0, .ref 0), (1, .int l1), (2, .int l2), (3, .int l3)] []) (l1 : Int32) (l2 : Int32) (l3 : Int32) (h : X6_begunBy_J42 n σ kont4 l1 l2 l3 = some res) : V (wX6 σ) 42 [(0, .ref 0), (1, .int l1), (2, .int l2), (3, .int l3)] [] := by
  unfold X6_begunBy_J42 at h
  refine hV.run 2 [] (ws' := wX6 σ) (pc' := 4) (ls' := [(3, .int (l3 + 1)), (0, .ref 0), (1, .int l1), (2, .int l2)]) (st' := []) (ps := []) rfl trivial ?_
  refine hV.pick [1, 2, 3, 0] (ls' := [(0, .ref 0), (1, .int l1), (2, .int l2), (3, .int (l3 + 1))]) rfl ?_
  exact hk4 l1 l2 (l3 + 1) h
def X6_begunBy_B4 (n : Nat) (σ : am_M) (kont4 : Int32 → Int32 → Int32 → Option Int32) (l1 : Int32) (l2 : Int32) (l3 : Int32) : Option Int32 := if (σ 0 4) ≤ l3 then (some l2) else (if (X6_begunAt σ l3) = true then (if (X6_senderAt σ l3) = l1 then (X6_begunBy_J42 n σ kont4 l1 (l2 ||| (1 <<< (((X6_pairAt σ l3) - (X6_pairAt σ l3) / 8 * 8) &&& 31))) l3) else (X6_begunBy_J42 n σ kont4 l1 l2 l3)) else (X6_begunBy_J42 n σ kont4 l1 l2 l3))
def X6_begunBy_L4 (n : Nat) (σ : am_M) : Nat → Int32 → Int32 → Int32 → Option Int32
 | 0 => fun _ _ _ => none
 | k + 1 => fun l1 l2 l3 => X6_begunBy_B4 n σ (X6_begunBy_L4 n σ k) l1 l2 l3
set_option maxRecDepth 100000 in
set_option maxHeartbeats 4000000 in
theorem p_X6_begunBy_B4 {l : Launch} {Post : Option Value → am_W → Prop} {V : am_VT} (hV : am_B l RX6 false 4 (am_cdT' tX6_begunBy) (am_rfL rfX6) (some .int) Post 5 V) (n : Nat) (σ : am_M) (res : Int32) (hP : Post (some (.int res)) (wX6 σ)) (kont4 : Int32 → Int32 → Int32 → Option Int32) (hk4 : ∀ (l1 : Int32) (l2 : Int32) (l3 : Int32), kont4 l1 l2 l3 = some res → V (wX6 σ) 4 [(0, .ref 0), (1, .int l1), (2, .int l2), (3, .int l3)] []) (l1 : Int32) (l2 : Int32) (l3 : Int32) (h : X6_begunBy_B4 n σ kont4 l1 l2 l3 = some res) : V (wX6 σ) 4 [(0, .ref 0), (1, .int l1), (2, .int l2), (3, .int l3)] [] := by
  unfold X6_begunBy_B4 at h
  by_cases c1 : (σ 0 4) ≤ l3
  · rw [if_pos c1] at h
    refine hV.run 5 [1] (ws' := wX6 σ) (pc' := 49) (ls' := [(0, .ref 0), (1, .int l1), (2, .int l2), (3, .int l3)]) (st' := [.int l2]) (ps := [(σ 0 4) ≤ l3]) rfl ⟨c1, trivial⟩ ?_
    cases h
    exact hV.ri rfl rfl rfl hP
  · rw [if_neg c1] at h
    refine hV.run 6 [0] (ws' := wX6 σ) (pc' := 14) (ls' := [(0, .ref 0), (1, .int l1), (2, .int l2), (3, .int l3)]) (st' := [.int l3, .ref 0]) (ps := [¬ (σ 0 4) ≤ l3]) rfl ⟨c1, trivial⟩ ?_
    refine hV.cOi (as := [.int l3]) (rest := []) (st := [.int l3, .ref 0]) (ws2 := wX6 σ) (pc2 := 17) kX6_40 (c_X6_begunAt l σ l3) rfl rfl rfl rfl rfl rfl rfl rfl rfl ?_
    by_cases c2 : (X6_begunAt σ l3) = true
    · rw [if_pos c2] at h
      refine hV.run 3 [0] (ws' := wX6 σ) (pc' := 22) (ls' := [(0, .ref 0), (1, .int l1), (2, .int l2), (3, .int l3)]) (st' := [.int l3, .ref 0]) (ps := [¬ (b2i (X6_begunAt σ l3)) = 0]) rfl ⟨(b2i_t c2), trivial⟩ ?_
      refine hV.cOi (as := [.int l3]) (rest := []) (st := [.int l3, .ref 0]) (ws2 := wX6 σ) (pc2 := 25) kX6_44 (c_X6_senderAt l σ l3) rfl rfl rfl rfl rfl rfl rfl rfl rfl ?_
      by_cases c3 : (X6_senderAt σ l3) = l1
      · rw [if_pos c3] at h
        refine hV.run 6 [0] (ws' := wX6 σ) (pc' := 33) (ls' := [(0, .ref 0), (1, .int l1), (2, .int l2), (3, .int l3)]) (st' := [.int l3, .ref 0, .int 1, .int l2]) (ps := [(X6_senderAt σ l3) = l1]) rfl ⟨c3, trivial⟩ ?_
        refine hV.cOi (as := [.int l3]) (rest := [.int 1, .int l2]) (st := [.int l3, .ref 0, .int 1, .int l2]) (ws2 := wX6 σ) (pc2 := 36) kX6_28 (c_X6_pairAt l σ l3) rfl rfl rfl rfl rfl rfl rfl rfl rfl ?_
        refine hV.run 5 [] (ws' := wX6 σ) (pc' := 42) (ls' := [(2, .int (l2 ||| (1 <<< (((X6_pairAt σ l3) - (X6_pairAt σ l3) / 8 * 8) &&& 31)))), (0, .ref 0), (1, .int l1), (3, .int l3)]) (st' := []) (ps := [¬ (8 : Int32) = 0]) rfl ⟨(by decide), trivial⟩ ?_
        refine hV.pick [1, 2, 0, 3] (ls' := [(0, .ref 0), (1, .int l1), (2, .int (l2 ||| (1 <<< (((X6_pairAt σ l3) - (X6_pairAt σ l3) / 8 * 8) &&& 31)))), (3, .int l3)]) rfl ?_
        exact p_X6_begunBy_J42 hV n σ res hP kont4 hk4 l1 (l2 ||| (1 <<< (((X6_pairAt σ l3) - (X6_pairAt σ l3) / 8 * 8) &&& 31))) l3 h
      · rw [if_neg c3] at h
        refine hV.run 2 [1] (ws' := wX6 σ) (pc' := 42) (ls' := [(0, .ref 0), (1, .int l1), (2, .int l2), (3, .int l3)]) (st' := []) (ps := [¬ (X6_senderAt σ l3) = l1]) rfl ⟨c3, trivial⟩ ?_
        exact p_X6_begunBy_J42 hV n σ res hP kont4 hk4 l1 l2 l3 h
    · rw [if_neg c2] at h
      refine hV.run 1 [1] (ws' := wX6 σ) (pc' := 42) (ls' := [(0, .ref 0), (1, .int l1), (2, .int l2), (3, .int l3)]) (st' := []) (ps := [(b2i (X6_begunAt σ l3)) = 0]) rfl ⟨(b2i_f c2), trivial⟩ ?_
      exact p_X6_begunBy_J42 hV n σ res hP kont4 hk4 l1 l2 l3 h
theorem p_X6_begunBy_L4 {l : Launch} {Post : Option Value → am_W → Prop} {V : am_VT} (hV : am_B l RX6 false 4 (am_cdT' tX6_begunBy) (am_rfL rfX6) (some .int) Post 5 V) (n : Nat) (σ : am_M) (res : Int32) (hP : Post (some (.int res)) (wX6 σ)) : ∀ (k : Nat) (l1 : Int32) (l2 : Int32) (l3 : Int32) (h : X6_begunBy_L4 n σ k l1 l2 l3 = some res), V (wX6 σ) 4 [(0, .ref 0), (1, .int l1), (2, .int l2), (3, .int l3)] [] := by
  intro k
  induction k with
  | zero => intro l1 l2 l3 h; cases h
  | succ k ih => intro l1 l2 l3 h; exact p_X6_begunBy_B4 hV n σ res hP _ ih l1 l2 l3 h
def X6_begunBy (n : Nat) (σ : am_M) (a1 : Int32) : Option Int32 := X6_begunBy_L4 n σ n a1 0 0
set_option maxRecDepth 100000 in
set_option maxHeartbeats 4000000 in
theorem c_X6_begunBy (l : Launch) (n : Nat) (σ : am_M) (a1 : Int32) (res : Int32) (h : X6_begunBy n σ a1 = some res) : am_Con l yX6_begunBy cX6_begunBy 4 (some .int) 4 [.ref 0, .int a1] (wX6 σ) (fun (r : Option Value) (w : am_W) => r = (some (.int res)) ∧ w = (wX6 σ)) := by
  refine am_metn (n0 := 5) (own := RX6) (cd := am_cdT' tX6_begunBy) (rf := am_rfL rfX6) (ini := false) rfl (by decide +kernel) rfl (by decide) dX6_begunBy rfX6_ok (Nat.le_of_ble_eq_true rfl) ?_
  intro V hV
  have hP : (fun (r : Option Value) (w : am_W) => r = (some (.int res)) ∧ w = (wX6 σ)) (some (.int res)) (wX6 σ) := ⟨rfl, rfl⟩
  show V (wX6 σ) 0 [(0, .ref 0), (1, .int a1)] []
  unfold X6_begunBy at h
  refine hV.run 4 [] (ws' := wX6 σ) (pc' := 4) (ls' := [(3, .int 0), (2, .int 0), (0, .ref 0), (1, .int a1)]) (st' := []) (ps := []) rfl trivial ?_
  refine hV.pick [2, 3, 1, 0] (ls' := [(0, .ref 0), (1, .int a1), (2, .int 0), (3, .int 0)]) rfl ?_
  exact p_X6_begunBy_L4 hV n σ res hP n a1 0 0 h

def X6_copy (σ : am_M) (a1 : Int32) (a2 : Int32) : Option am_M := some (sC (sC (sC (sC σ 1 (jput 320 (σ 1) a2 (jat 320 (σ 1) a1))) 2 (jput 320 (σ 2) a2 (jat 320 (σ 2) a1))) 3 (jput 320 (σ 3) a2 (jat 320 (σ 3) a1))) 4 (jput 320 (σ 4) a2 (jat 320 (σ 4) a1)))
set_option maxRecDepth 100000 in
set_option maxHeartbeats 4000000 in
theorem c_X6_copy (l : Launch) (σ : am_M) (a1 : Int32) (a2 : Int32) (res : am_M) (h : X6_copy σ a1 a2 = some res) : am_Con l yX6_copy cX6_copy 3 none 2 [.ref 0, .int a1, .int a2] (wX6 σ) (fun (r : Option Value) (w : am_W) => r = none ∧ w = (wX6 res)) := by
  refine am_metn (n0 := 5) (own := RX6) (cd := am_cdT' tX6_copy) (rf := am_rfL rfX6) (ini := false) rfl (by decide +kernel) rfl (by decide) dX6_copy rfX6_ok (Nat.le_of_ble_eq_true rfl) ?_
  intro V hV
  have hP : (fun (r : Option Value) (w : am_W) => r = none ∧ w = (wX6 res)) none (wX6 res) := ⟨rfl, rfl⟩
  show V (wX6 σ) 0 [(0, .ref 0), (1, .int a1), (2, .int a2)] []
  unfold X6_copy at h
  refine hV.run 6 [] (ws' := wX6 σ) (pc' := 10) (ls' := [(0, .ref 0), (1, .int a1), (2, .int a2)]) (st' := [.int a1, .ref 1, .int a2, .ref 1]) (ps := []) rfl trivial ?_
  refine hV.cSi (as := [.ref 0, .int a1]) (js := [1]) (rest := [.int a2, .ref 1]) (st := [.int a1, .ref 1, .int a2, .ref 1]) (ws2 := wX6 σ) (pc2 := 13) kX6_24 (c_at l 1 320 (by decide) (σ 1) a1) rfl rfl rfl rfl rfl rfl rfl rfl rfl rfl ?_
  refine hV.cSv (as := [.ref 0, .int a2, .int (jat 320 (σ 1) a1)]) (js := [1]) (rest := []) (st := [.int (jat 320 (σ 1) a1), .int a2, .ref 1]) (ws2 := wX6 (sC σ 1 (jput 320 (σ 1) a2 (jat 320 (σ 1) a1)))) (pc2 := 16) kX6_51 (c_put l 1 320 (by decide) (σ 1) a2 (jat 320 (σ 1) a1)) rfl rfl rfl rfl rfl rfl rfl rfl rfl rfl ?_
  refine hV.run 6 [] (ws' := wX6 (sC σ 1 (jput 320 (σ 1) a2 (jat 320 (σ 1) a1)))) (pc' := 26) (ls' := [(0, .ref 0), (1, .int a1), (2, .int a2)]) (st' := [.int a1, .ref 2, .int a2, .ref 2]) (ps := []) rfl trivial ?_
  refine hV.cSi (as := [.ref 0, .int a1]) (js := [2]) (rest := [.int a2, .ref 2]) (st := [.int a1, .ref 2, .int a2, .ref 2]) (ws2 := wX6 (sC σ 1 (jput 320 (σ 1) a2 (jat 320 (σ 1) a1)))) (pc2 := 29) kX6_24 (c_at l 1 320 (by decide) (σ 2) a1) rfl rfl rfl rfl rfl rfl rfl rfl rfl rfl ?_
  refine hV.cSv (as := [.ref 0, .int a2, .int (jat 320 (σ 2) a1)]) (js := [2]) (rest := []) (st := [.int (jat 320 (σ 2) a1), .int a2, .ref 2]) (ws2 := wX6 (sC (sC σ 1 (jput 320 (σ 1) a2 (jat 320 (σ 1) a1))) 2 (jput 320 (σ 2) a2 (jat 320 (σ 2) a1)))) (pc2 := 32) kX6_51 (c_put l 1 320 (by decide) (σ 2) a2 (jat 320 (σ 2) a1)) rfl rfl rfl rfl rfl rfl rfl rfl rfl rfl ?_
  refine hV.run 6 [] (ws' := wX6 (sC (sC σ 1 (jput 320 (σ 1) a2 (jat 320 (σ 1) a1))) 2 (jput 320 (σ 2) a2 (jat 320 (σ 2) a1)))) (pc' := 42) (ls' := [(0, .ref 0), (1, .int a1), (2, .int a2)]) (st' := [.int a1, .ref 3, .int a2, .ref 3]) (ps := []) rfl trivial ?_
  refine hV.cSi (as := [.ref 0, .int a1]) (js := [3]) (rest := [.int a2, .ref 3]) (st := [.int a1, .ref 3, .int a2, .ref 3]) (ws2 := wX6 (sC (sC σ 1 (jput 320 (σ 1) a2 (jat 320 (σ 1) a1))) 2 (jput 320 (σ 2) a2 (jat 320 (σ 2) a1)))) (pc2 := 45) kX6_24 (c_at l 1 320 (by decide) (σ 3) a1) rfl rfl rfl rfl rfl rfl rfl rfl rfl rfl ?_
  refine hV.cSv (as := [.ref 0, .int a2, .int (jat 320 (σ 3) a1)]) (js := [3]) (rest := []) (st := [.int (jat 320 (σ 3) a1), .int a2, .ref 3]) (ws2 := wX6 (sC (sC (sC σ 1 (jput 320 (σ 1) a2 (jat 320 (σ 1) a1))) 2 (jput 320 (σ 2) a2 (jat 320 (σ 2) a1))) 3 (jput 320 (σ 3) a2 (jat 320 (σ 3) a1)))) (pc2 := 48) kX6_51 (c_put l 1 320 (by decide) (σ 3) a2 (jat 320 (σ 3) a1)) rfl rfl rfl rfl rfl rfl rfl rfl rfl rfl ?_
  refine hV.run 6 [] (ws' := wX6 (sC (sC (sC σ 1 (jput 320 (σ 1) a2 (jat 320 (σ 1) a1))) 2 (jput 320 (σ 2) a2 (jat 320 (σ 2) a1))) 3 (jput 320 (σ 3) a2 (jat 320 (σ 3) a1)))) (pc' := 58) (ls' := [(0, .ref 0), (1, .int a1), (2, .int a2)]) (st' := [.int a1, .ref 4, .int a2, .ref 4]) (ps := []) rfl trivial ?_
  refine hV.cSi (as := [.ref 0, .int a1]) (js := [4]) (rest := [.int a2, .ref 4]) (st := [.int a1, .ref 4, .int a2, .ref 4]) (ws2 := wX6 (sC (sC (sC σ 1 (jput 320 (σ 1) a2 (jat 320 (σ 1) a1))) 2 (jput 320 (σ 2) a2 (jat 320 (σ 2) a1))) 3 (jput 320 (σ 3) a2 (jat 320 (σ 3) a1)))) (pc2 := 61) kX6_24 (c_at l 1 320 (by decide) (σ 4) a1) rfl rfl rfl rfl rfl rfl rfl rfl rfl rfl ?_
  refine hV.cSv (as := [.ref 0, .int a2, .int (jat 320 (σ 4) a1)]) (js := [4]) (rest := []) (st := [.int (jat 320 (σ 4) a1), .int a2, .ref 4]) (ws2 := wX6 (sC (sC (sC (sC σ 1 (jput 320 (σ 1) a2 (jat 320 (σ 1) a1))) 2 (jput 320 (σ 2) a2 (jat 320 (σ 2) a1))) 3 (jput 320 (σ 3) a2 (jat 320 (σ 3) a1))) 4 (jput 320 (σ 4) a2 (jat 320 (σ 4) a1)))) (pc2 := 64) kX6_51 (c_put l 1 320 (by decide) (σ 4) a2 (jat 320 (σ 4) a1)) rfl rfl rfl rfl rfl rfl rfl rfl rfl rfl ?_
  cases h
  exact hV.rv rfl rfl rfl hP

def X6_add_J50 (n : Nat) (σ : am_M) (l1 : Int32) (l2 : Int32) (l3 : Int32) (l4 : Int32) (l5 : Int32) (l6 : Int32) : Option am_M := some (sC (sC (sC (sC (sC σ 0 (am_u (σ 0) 4 ((σ 0 4) + 1))) 1 (jput 320 (σ 1) l6 ((l1 <<< 8) ||| l4))) 2 (jput 320 (σ 2) l6 l2)) 3 (jput 320 (σ 3) l6 l3)) 4 (jput 320 (σ 4) l6 l5))
set_option maxRecDepth 100000 in
set_option maxHeartbeats 4000000 in
theorem p_X6_add_J50 {l : Launch} {Post : Option Value → am_W → Prop} {V : am_VT} (hV : am_B l RX6 false 3 (am_cdT' tX6_add) (am_rfL rfX6) none Post 5 V) (n : Nat) (res : am_M) (hP : Post none (wX6 res)) (σ : am_M) (l1 : Int32) (l2 : Int32) (l3 : Int32) (l4 : Int32) (l5 : Int32) (l6 : Int32) (h : X6_add_J50 n σ l1 l2 l3 l4 l5 l6 = some res) : V (wX6 σ) 50 [(0, .ref 0), (1, .int l1), (2, .int l2), (3, .int l3), (4, .int l4), (5, .int l5), (6, .int l6)] [] := by
  unfold X6_add_J50 at h
  refine hV.run 8 [] (ws' := wX6 σ) (pc' := 63) (ls' := [(0, .ref 0), (1, .int l1), (2, .int l2), (3, .int l3), (4, .int l4), (5, .int l5), (6, .int l6)]) (st' := [.int ((l1 <<< 8) ||| l4), .int l6, .ref 1]) (ps := []) rfl trivial ?_
  refine hV.cSv (as := [.ref 0, .int l6, .int ((l1 <<< 8) ||| l4)]) (js := [1]) (rest := []) (st := [.int ((l1 <<< 8) ||| l4), .int l6, .ref 1]) (ws2 := wX6 (sC σ 1 (jput 320 (σ 1) l6 ((l1 <<< 8) ||| l4)))) (pc2 := 66) kX6_51 (c_put l 1 320 (by decide) (σ 1) l6 ((l1 <<< 8) ||| l4)) rfl rfl rfl rfl rfl rfl rfl rfl rfl rfl ?_
  refine hV.run 4 [] (ws' := wX6 (sC σ 1 (jput 320 (σ 1) l6 ((l1 <<< 8) ||| l4)))) (pc' := 73) (ls' := [(0, .ref 0), (1, .int l1), (2, .int l2), (3, .int l3), (4, .int l4), (5, .int l5), (6, .int l6)]) (st' := [.int l2, .int l6, .ref 2]) (ps := []) rfl trivial ?_
  refine hV.cSv (as := [.ref 0, .int l6, .int l2]) (js := [2]) (rest := []) (st := [.int l2, .int l6, .ref 2]) (ws2 := wX6 (sC (sC σ 1 (jput 320 (σ 1) l6 ((l1 <<< 8) ||| l4))) 2 (jput 320 (σ 2) l6 l2))) (pc2 := 76) kX6_51 (c_put l 1 320 (by decide) (σ 2) l6 l2) rfl rfl rfl rfl rfl rfl rfl rfl rfl rfl ?_
  refine hV.run 4 [] (ws' := wX6 (sC (sC σ 1 (jput 320 (σ 1) l6 ((l1 <<< 8) ||| l4))) 2 (jput 320 (σ 2) l6 l2))) (pc' := 83) (ls' := [(0, .ref 0), (1, .int l1), (2, .int l2), (3, .int l3), (4, .int l4), (5, .int l5), (6, .int l6)]) (st' := [.int l3, .int l6, .ref 3]) (ps := []) rfl trivial ?_
  refine hV.cSv (as := [.ref 0, .int l6, .int l3]) (js := [3]) (rest := []) (st := [.int l3, .int l6, .ref 3]) (ws2 := wX6 (sC (sC (sC σ 1 (jput 320 (σ 1) l6 ((l1 <<< 8) ||| l4))) 2 (jput 320 (σ 2) l6 l2)) 3 (jput 320 (σ 3) l6 l3))) (pc2 := 86) kX6_51 (c_put l 1 320 (by decide) (σ 3) l6 l3) rfl rfl rfl rfl rfl rfl rfl rfl rfl rfl ?_
  refine hV.run 4 [] (ws' := wX6 (sC (sC (sC σ 1 (jput 320 (σ 1) l6 ((l1 <<< 8) ||| l4))) 2 (jput 320 (σ 2) l6 l2)) 3 (jput 320 (σ 3) l6 l3))) (pc' := 94) (ls' := [(0, .ref 0), (1, .int l1), (2, .int l2), (3, .int l3), (4, .int l4), (5, .int l5), (6, .int l6)]) (st' := [.int l5, .int l6, .ref 4]) (ps := []) rfl trivial ?_
  refine hV.cSv (as := [.ref 0, .int l6, .int l5]) (js := [4]) (rest := []) (st := [.int l5, .int l6, .ref 4]) (ws2 := wX6 (sC (sC (sC (sC σ 1 (jput 320 (σ 1) l6 ((l1 <<< 8) ||| l4))) 2 (jput 320 (σ 2) l6 l2)) 3 (jput 320 (σ 3) l6 l3)) 4 (jput 320 (σ 4) l6 l5))) (pc2 := 97) kX6_51 (c_put l 1 320 (by decide) (σ 4) l6 l5) rfl rfl rfl rfl rfl rfl rfl rfl rfl rfl ?_
  refine hV.run 6 [] (ws' := wX6 (sC (sC (sC (sC (sC σ 0 (am_u (σ 0) 4 ((σ 0 4) + 1))) 1 (jput 320 (σ 1) l6 ((l1 <<< 8) ||| l4))) 2 (jput 320 (σ 2) l6 l2)) 3 (jput 320 (σ 3) l6 l3)) 4 (jput 320 (σ 4) l6 l5))) (pc' := 107) (ls' := [(0, .ref 0), (1, .int l1), (2, .int l2), (3, .int l3), (4, .int l4), (5, .int l5), (6, .int l6)]) (st' := []) (ps := []) rfl trivial ?_
  cases h
  exact hV.rv rfl rfl rfl hP
def X6_add_B17 (n : Nat) (kont17 : am_M → Int32 → Int32 → Int32 → Int32 → Int32 → Int32 → Option am_M) (σ : am_M) (l1 : Int32) (l2 : Int32) (l3 : Int32) (l4 : Int32) (l5 : Int32) (l6 : Int32) : Option am_M := if l6 ≤ 0 then (X6_add_J50 n σ l1 l2 l3 l4 l5 l6) else (if (X6_pairAt σ (l6 - 1)) ≤ l1 then (X6_add_J50 n σ l1 l2 l3 l4 l5 l6) else (X6_copy σ (l6 - 1) l6).bind (fun q3 => kont17 q3 l1 l2 l3 l4 l5 (l6 + (-1))))
def X6_add_L17 (n : Nat) : Nat → am_M → Int32 → Int32 → Int32 → Int32 → Int32 → Int32 → Option am_M
 | 0 => fun _ _ _ _ _ _ _ => none
 | k + 1 => fun σ l1 l2 l3 l4 l5 l6 => X6_add_B17 n (X6_add_L17 n k) σ l1 l2 l3 l4 l5 l6
set_option maxRecDepth 100000 in
set_option maxHeartbeats 4000000 in
theorem p_X6_add_B17 {l : Launch} {Post : Option Value → am_W → Prop} {V : am_VT} (hV : am_B l RX6 false 3 (am_cdT' tX6_add) (am_rfL rfX6) none Post 5 V) (n : Nat) (res : am_M) (hP : Post none (wX6 res)) (kont17 : am_M → Int32 → Int32 → Int32 → Int32 → Int32 → Int32 → Option am_M) (hk17 : ∀ (σ : am_M) (l1 : Int32) (l2 : Int32) (l3 : Int32) (l4 : Int32) (l5 : Int32) (l6 : Int32), kont17 σ l1 l2 l3 l4 l5 l6 = some res → V (wX6 σ) 17 [(0, .ref 0), (1, .int l1), (2, .int l2), (3, .int l3), (4, .int l4), (5, .int l5), (6, .int l6)] []) (σ : am_M) (l1 : Int32) (l2 : Int32) (l3 : Int32) (l4 : Int32) (l5 : Int32) (l6 : Int32) (h : X6_add_B17 n kont17 σ l1 l2 l3 l4 l5 l6 = some res) : V (wX6 σ) 17 [(0, .ref 0), (1, .int l1), (2, .int l2), (3, .int l3), (4, .int l4), (5, .int l5), (6, .int l6)] [] := by
  unfold X6_add_B17 at h
  by_cases c1 : l6 ≤ 0
  · rw [if_pos c1] at h
    refine hV.run 2 [1] (ws' := wX6 σ) (pc' := 50) (ls' := [(0, .ref 0), (1, .int l1), (2, .int l2), (3, .int l3), (4, .int l4), (5, .int l5), (6, .int l6)]) (st' := []) (ps := [l6 ≤ 0]) rfl ⟨c1, trivial⟩ ?_
    exact p_X6_add_J50 hV n res hP σ l1 l2 l3 l4 l5 l6 h
  · rw [if_neg c1] at h
    refine hV.run 6 [0] (ws' := wX6 σ) (pc' := 27) (ls' := [(0, .ref 0), (1, .int l1), (2, .int l2), (3, .int l3), (4, .int l4), (5, .int l5), (6, .int l6)]) (st' := [.int (l6 - 1), .ref 0]) (ps := [¬ l6 ≤ 0]) rfl ⟨c1, trivial⟩ ?_
    refine hV.cOi (as := [.int (l6 - 1)]) (rest := []) (st := [.int (l6 - 1), .ref 0]) (ws2 := wX6 σ) (pc2 := 30) kX6_28 (c_X6_pairAt l σ (l6 - 1)) rfl rfl rfl rfl rfl rfl rfl rfl rfl ?_
    by_cases c2 : (X6_pairAt σ (l6 - 1)) ≤ l1
    · rw [if_pos c2] at h
      refine hV.run 2 [1] (ws' := wX6 σ) (pc' := 50) (ls' := [(0, .ref 0), (1, .int l1), (2, .int l2), (3, .int l3), (4, .int l4), (5, .int l5), (6, .int l6)]) (st' := []) (ps := [(X6_pairAt σ (l6 - 1)) ≤ l1]) rfl ⟨c2, trivial⟩ ?_
      exact p_X6_add_J50 hV n res hP σ l1 l2 l3 l4 l5 l6 h
    · rw [if_neg c2] at h
      refine hV.run 7 [0] (ws' := wX6 σ) (pc' := 41) (ls' := [(0, .ref 0), (1, .int l1), (2, .int l2), (3, .int l3), (4, .int l4), (5, .int l5), (6, .int l6)]) (st' := [.int l6, .int (l6 - 1), .ref 0]) (ps := [¬ (X6_pairAt σ (l6 - 1)) ≤ l1]) rfl ⟨c2, trivial⟩ ?_
      obtain ⟨q3, hq3, h⟩ := am_bind h
      refine hV.cOv (as := [.int (l6 - 1), .int l6]) (rest := []) (st := [.int l6, .int (l6 - 1), .ref 0]) (ws2 := wX6 q3) (pc2 := 44) kX6_47 (c_X6_copy l σ (l6 - 1) l6 q3 hq3) rfl rfl rfl rfl rfl rfl rfl rfl rfl ?_
      refine hV.run 2 [] (ws' := wX6 q3) (pc' := 17) (ls' := [(6, .int (l6 + (-1))), (0, .ref 0), (1, .int l1), (2, .int l2), (3, .int l3), (4, .int l4), (5, .int l5)]) (st' := []) (ps := []) rfl trivial ?_
      refine hV.pick [1, 2, 3, 4, 5, 6, 0] (ls' := [(0, .ref 0), (1, .int l1), (2, .int l2), (3, .int l3), (4, .int l4), (5, .int l5), (6, .int (l6 + (-1)))]) rfl ?_
      exact hk17 q3 l1 l2 l3 l4 l5 (l6 + (-1)) h
theorem p_X6_add_L17 {l : Launch} {Post : Option Value → am_W → Prop} {V : am_VT} (hV : am_B l RX6 false 3 (am_cdT' tX6_add) (am_rfL rfX6) none Post 5 V) (n : Nat) (res : am_M) (hP : Post none (wX6 res)) : ∀ (k : Nat) (σ : am_M) (l1 : Int32) (l2 : Int32) (l3 : Int32) (l4 : Int32) (l5 : Int32) (l6 : Int32) (h : X6_add_L17 n k σ l1 l2 l3 l4 l5 l6 = some res), V (wX6 σ) 17 [(0, .ref 0), (1, .int l1), (2, .int l2), (3, .int l3), (4, .int l4), (5, .int l5), (6, .int l6)] [] := by
  intro k
  induction k with
  | zero => intro σ l1 l2 l3 l4 l5 l6 h; cases h
  | succ k ih => intro σ l1 l2 l3 l4 l5 l6 h; exact p_X6_add_B17 hV n res hP _ ih σ l1 l2 l3 l4 l5 l6 h
def X6_add (n : Nat) (σ : am_M) (a1 : Int32) (a2 : Int32) (a3 : Int32) (a4 : Int32) (a5 : Int32) : Option am_M := if (σ 0 4) < 320 then (X6_add_L17 n n σ a1 a2 a3 a4 a5 (σ 0 4)) else (some σ)
set_option maxRecDepth 100000 in
set_option maxHeartbeats 4000000 in
theorem c_X6_add (l : Launch) (n : Nat) (σ : am_M) (a1 : Int32) (a2 : Int32) (a3 : Int32) (a4 : Int32) (a5 : Int32) (res : am_M) (h : X6_add n σ a1 a2 a3 a4 a5 = some res) : am_Con l yX6_add cX6_add 7 none 3 [.ref 0, .int a1, .int a2, .int a3, .int a4, .int a5] (wX6 σ) (fun (r : Option Value) (w : am_W) => r = none ∧ w = (wX6 res)) := by
  refine am_metn (n0 := 5) (own := RX6) (cd := am_cdT' tX6_add) (rf := am_rfL rfX6) (ini := false) rfl (by decide +kernel) rfl (by decide) dX6_add rfX6_ok (Nat.le_of_ble_eq_true rfl) ?_
  intro V hV
  have hP : (fun (r : Option Value) (w : am_W) => r = none ∧ w = (wX6 res)) none (wX6 res) := ⟨rfl, rfl⟩
  show V (wX6 σ) 0 [(0, .ref 0), (1, .int a1), (2, .int a2), (3, .int a3), (4, .int a4), (5, .int a5)] []
  unfold X6_add at h
  by_cases c1 : (σ 0 4) < 320
  · rw [if_pos c1] at h
    refine hV.run 7 [1] (ws' := wX6 σ) (pc' := 17) (ls' := [(6, .int (σ 0 4)), (0, .ref 0), (1, .int a1), (2, .int a2), (3, .int a3), (4, .int a4), (5, .int a5)]) (st' := []) (ps := [(σ 0 4) < 320]) rfl ⟨c1, trivial⟩ ?_
    refine hV.pick [1, 2, 3, 4, 5, 6, 0] (ls' := [(0, .ref 0), (1, .int a1), (2, .int a2), (3, .int a3), (4, .int a4), (5, .int a5), (6, .int (σ 0 4))]) rfl ?_
    exact p_X6_add_L17 hV n res hP n σ a1 a2 a3 a4 a5 (σ 0 4) h
  · rw [if_neg c1] at h
    refine hV.run 4 [0] (ws' := wX6 σ) (pc' := 10) (ls' := [(0, .ref 0), (1, .int a1), (2, .int a2), (3, .int a3), (4, .int a4), (5, .int a5)]) (st' := []) (ps := [¬ (σ 0 4) < 320]) rfl ⟨c1, trivial⟩ ?_
    cases h
    exact hV.rv rfl rfl rfl hP

def X6_remove_B17 (n : Nat) (kont17 : am_M → Int32 → Option am_M) (σ : am_M) (l2 : Int32) : Option am_M := if (σ 0 4) ≤ l2 then (some (sC σ 0 (am_u (σ 0) 4 ((σ 0 4) - 1)))) else (X6_copy σ l2 (l2 - 1)).bind (fun q2 => kont17 q2 (l2 + 1))
def X6_remove_L17 (n : Nat) : Nat → am_M → Int32 → Option am_M
 | 0 => fun _ _ => none
 | k + 1 => fun σ l2 => X6_remove_B17 n (X6_remove_L17 n k) σ l2
set_option maxRecDepth 100000 in
set_option maxHeartbeats 4000000 in
theorem p_X6_remove_B17 {l : Launch} {Post : Option Value → am_W → Prop} {V : am_VT} (hV : am_B l RX6 false 3 (am_cdT' tX6_remove) (am_rfL rfX6) none Post 5 V) (n : Nat) (res : am_M) (hP : Post none (wX6 res)) (kont17 : am_M → Int32 → Option am_M) (hk17 : ∀ (σ : am_M) (l2 : Int32), kont17 σ l2 = some res → V (wX6 σ) 17 [(0, .ref 0), (2, .int l2)] []) (σ : am_M) (l2 : Int32) (h : X6_remove_B17 n kont17 σ l2 = some res) : V (wX6 σ) 17 [(0, .ref 0), (2, .int l2)] [] := by
  unfold X6_remove_B17 at h
  by_cases c1 : (σ 0 4) ≤ l2
  · rw [if_pos c1] at h
    refine hV.run 10 [1] (ws' := wX6 (sC σ 0 (am_u (σ 0) 4 ((σ 0 4) - 1)))) (pc' := 49) (ls' := [(0, .ref 0), (2, .int l2)]) (st' := []) (ps := [(σ 0 4) ≤ l2]) rfl ⟨c1, trivial⟩ ?_
    cases h
    exact hV.rv rfl rfl rfl hP
  · rw [if_neg c1] at h
    refine hV.run 9 [0] (ws' := wX6 σ) (pc' := 30) (ls' := [(0, .ref 0), (2, .int l2)]) (st' := [.int (l2 - 1), .int l2, .ref 0]) (ps := [¬ (σ 0 4) ≤ l2]) rfl ⟨c1, trivial⟩ ?_
    obtain ⟨q2, hq2, h⟩ := am_bind h
    refine hV.cOv (as := [.int l2, .int (l2 - 1)]) (rest := []) (st := [.int (l2 - 1), .int l2, .ref 0]) (ws2 := wX6 q2) (pc2 := 33) kX6_47 (c_X6_copy l σ l2 (l2 - 1) q2 hq2) rfl rfl rfl rfl rfl rfl rfl rfl rfl ?_
    refine hV.run 2 [] (ws' := wX6 q2) (pc' := 17) (ls' := [(2, .int (l2 + 1)), (0, .ref 0)]) (st' := []) (ps := []) rfl trivial ?_
    refine hV.pick [1, 0] (ls' := [(0, .ref 0), (2, .int (l2 + 1))]) rfl ?_
    exact hk17 q2 (l2 + 1) h
theorem p_X6_remove_L17 {l : Launch} {Post : Option Value → am_W → Prop} {V : am_VT} (hV : am_B l RX6 false 3 (am_cdT' tX6_remove) (am_rfL rfX6) none Post 5 V) (n : Nat) (res : am_M) (hP : Post none (wX6 res)) : ∀ (k : Nat) (σ : am_M) (l2 : Int32) (h : X6_remove_L17 n k σ l2 = some res), V (wX6 σ) 17 [(0, .ref 0), (2, .int l2)] [] := by
  intro k
  induction k with
  | zero => intro σ l2 h; cases h
  | succ k ih => intro σ l2 h; exact p_X6_remove_B17 hV n res hP _ ih σ l2 h
def X6_remove (n : Nat) (σ : am_M) (a1 : Int32) : Option am_M := if a1 < 0 then (some σ) else (if a1 < (σ 0 4) then (X6_remove_L17 n n σ (a1 + 1)) else (some σ))
set_option maxRecDepth 100000 in
set_option maxHeartbeats 4000000 in
theorem c_X6_remove (l : Launch) (n : Nat) (σ : am_M) (a1 : Int32) (res : am_M) (h : X6_remove n σ a1 = some res) : am_Con l yX6_remove cX6_remove 3 none 3 [.ref 0, .int a1] (wX6 σ) (fun (r : Option Value) (w : am_W) => r = none ∧ w = (wX6 res)) := by
  refine am_metn (n0 := 5) (own := RX6) (cd := am_cdT' tX6_remove) (rf := am_rfL rfX6) (ini := false) rfl (by decide +kernel) rfl (by decide) dX6_remove rfX6_ok (Nat.le_of_ble_eq_true rfl) ?_
  intro V hV
  have hP : (fun (r : Option Value) (w : am_W) => r = none ∧ w = (wX6 res)) none (wX6 res) := ⟨rfl, rfl⟩
  show V (wX6 σ) 0 [(0, .ref 0), (1, .int a1)] []
  unfold X6_remove at h
  by_cases c1 : a1 < 0
  · rw [if_pos c1] at h
    refine hV.run 2 [1] (ws' := wX6 σ) (pc' := 12) (ls' := [(0, .ref 0), (1, .int a1)]) (st' := []) (ps := [a1 < 0]) rfl ⟨c1, trivial⟩ ?_
    cases h
    exact hV.rv rfl rfl rfl hP
  · rw [if_neg c1] at h
    by_cases c2 : a1 < (σ 0 4)
    · rw [if_pos c2] at h
      refine hV.run 10 [0, 1] (ws' := wX6 σ) (pc' := 17) (ls' := [(2, .int (a1 + 1)), (0, .ref 0), (1, .int a1)]) (st' := []) (ps := [¬ a1 < 0, a1 < (σ 0 4)]) rfl ⟨c1, c2, trivial⟩ ?_
      refine hV.pick [1, 0] (ls' := [(0, .ref 0), (2, .int (a1 + 1))]) rfl ?_
      exact p_X6_remove_L17 hV n res hP n σ (a1 + 1) h
    · rw [if_neg c2] at h
      refine hV.run 6 [0, 0] (ws' := wX6 σ) (pc' := 12) (ls' := [(0, .ref 0), (1, .int a1)]) (st' := []) (ps := [¬ a1 < 0, ¬ a1 < (σ 0 4)]) rfl ⟨c1, c2, trivial⟩ ?_
      cases h
      exact hV.rv rfl rfl rfl hP

