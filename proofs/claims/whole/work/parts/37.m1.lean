def X8_ring_J37 (σ : am_M) (l1 : Int32) : Option (Int32 × am_M) := if l1 = (-1) then (some ((σ 0 60), σ)) else (if l1 < 0 ∨ 8 ≤ l1.toNatClampNeg then none else (some ((σ 30 l1.toNatClampNeg), σ)))
set_option maxRecDepth 100000 in
set_option maxHeartbeats 4000000 in
theorem p_X8_ring_J37 {l : Launch} {Post : Option Value → am_W → Prop} {V : am_VT} (hV : am_B l RX8 false 2 (am_cdT' tX8_ring) (am_rfL rfX8) (some .int) Post 36 V) (res : (Int32 × am_M)) (hP : Post (some (.int res.1)) (wX8 res.2)) (σ : am_M) (l1 : Int32) (h : X8_ring_J37 σ l1 = some res) : V (wX8 σ) 37 [(0, .ref 0), (1, .int l1)] [] := by
  unfold X8_ring_J37 at h
  by_cases c1 : l1 = (-1)
  · rw [if_pos c1] at h
    refine hV.run 6 [0] (ws' := wX8 σ) (pc' := 55) (ls' := [(0, .ref 0), (1, .int l1)]) (st' := [.int (σ 0 60)]) (ps := [l1 = (-1)]) rfl ⟨c1, trivial⟩ ?_
    cases h
    exact hV.ri rfl rfl rfl hP
  · rw [if_neg c1] at h
    by_cases g2 : l1 < 0 ∨ 8 ≤ l1.toNatClampNeg
    · rw [if_pos g2] at h; cases h
    rw [if_neg g2] at h
    refine hV.run 7 [1] (ws' := wX8 σ) (pc' := 55) (ls' := [(0, .ref 0), (1, .int l1)]) (st' := [.int (σ 30 l1.toNatClampNeg)]) (ps := [¬ l1 = (-1), vp_in l1 8]) rfl ⟨c1, g2, trivial⟩ ?_
    cases h
    exact hV.ri rfl rfl rfl hP
def X8_ring_J31 (σ : am_M) : Option (Int32 × am_M) := (X8_fail σ 1).bind (fun q1 => some (q1.1, q1.2))
set_option maxRecDepth 100000 in
set_option maxHeartbeats 4000000 in
theorem p_X8_ring_J31 {l : Launch} {Post : Option Value → am_W → Prop} {V : am_VT} (hV : am_B l RX8 false 2 (am_cdT' tX8_ring) (am_rfL rfX8) (some .int) Post 36 V) (res : (Int32 × am_M)) (hP : Post (some (.int res.1)) (wX8 res.2)) (σ : am_M) (h : X8_ring_J31 σ = some res) : V (wX8 σ) 31 [(0, .ref 0)] [] := by
  unfold X8_ring_J31 at h
  refine hV.run 2 [] (ws' := wX8 σ) (pc' := 33) (ls' := [(0, .ref 0)]) (st' := [.int 1, .ref 0]) (ps := []) rfl trivial ?_
  obtain ⟨q1, hq1, h⟩ := am_bind h
  refine hV.cOi (as := [.int 1]) (rest := []) (st := [.int 1, .ref 0]) (ws2 := wX8 q1.2) (pc2 := 36) kX8_313 (c_X8_fail l σ 1 q1 hq1) rfl rfl rfl rfl rfl rfl rfl rfl rfl ?_
  cases h
  exact hV.ri rfl rfl rfl hP
def X8_ring (σ : am_M) (a1 : Int32) : Option (Int32 × am_M) := if (X8_hasPlay (sC σ 0 (am_u (σ 0) 2 0))) = true then (if a1 = (-1) then (X8_ring_J37 (sC σ 0 (am_u (σ 0) 2 0)) a1) else (if (X8_isIn a1 0 ((σ 0 60) - 1)) = true then (X8_ring_J37 (sC σ 0 (am_u (σ 0) 2 0)) a1) else (X8_ring_J31 (sC σ 0 (am_u (σ 0) 2 0))))) else (X8_ring_J31 (sC σ 0 (am_u (σ 0) 2 0)))
set_option maxRecDepth 100000 in
set_option maxHeartbeats 4000000 in
theorem c_X8_ring (l : Launch) (σ : am_M) (a1 : Int32) (res : (Int32 × am_M)) (h : X8_ring σ a1 = some res) : am_Con l yX8_ring cX8_ring 2 (some .int) 2 [.ref 0, .int a1] (wX8 σ) (fun (r : Option Value) (w : am_W) => r = (some (.int res.1)) ∧ w = (wX8 res.2)) := by
  refine am_metn (n0 := 36) (own := RX8) (cd := am_cdT' tX8_ring) (rf := am_rfL rfX8) (ini := false) rfl (by decide +kernel) rfl (by decide) dX8_ring rfX8_ok (Nat.le_of_ble_eq_true rfl) ?_
  intro V hV
  have hP : (fun (r : Option Value) (w : am_W) => r = (some (.int res.1)) ∧ w = (wX8 res.2)) (some (.int res.1)) (wX8 res.2) := ⟨rfl, rfl⟩
  show V (wX8 σ) 0 [(0, .ref 0), (1, .int a1)] []
  unfold X8_ring at h
  refine hV.run 4 [] (ws' := wX8 (sC σ 0 (am_u (σ 0) 2 0))) (pc' := 6) (ls' := [(0, .ref 0), (1, .int a1)]) (st' := [.ref 0]) (ps := []) rfl trivial ?_
  refine hV.cOi (as := []) (rest := []) (st := [.ref 0]) (ws2 := wX8 (sC σ 0 (am_u (σ 0) 2 0))) (pc2 := 9) kX8_516 (c_X8_hasPlay l (sC σ 0 (am_u (σ 0) 2 0))) rfl rfl rfl rfl rfl rfl rfl rfl rfl ?_
  by_cases c1 : (X8_hasPlay (sC σ 0 (am_u (σ 0) 2 0))) = true
  · rw [if_pos c1] at h
    by_cases c2 : a1 = (-1)
    · rw [if_pos c2] at h
      refine hV.run 4 [0, 1] (ws' := wX8 (sC σ 0 (am_u (σ 0) 2 0))) (pc' := 37) (ls' := [(0, .ref 0), (1, .int a1)]) (st' := []) (ps := [¬ (b2i (X8_hasPlay (sC σ 0 (am_u (σ 0) 2 0)))) = 0, a1 = (-1)]) rfl ⟨(b2i_t c1), c2, trivial⟩ ?_
      exact p_X8_ring_J37 hV res hP (sC σ 0 (am_u (σ 0) 2 0)) a1 h
    · rw [if_neg c2] at h
      refine hV.run 10 [0, 0] (ws' := wX8 (sC σ 0 (am_u (σ 0) 2 0))) (pc' := 25) (ls' := [(0, .ref 0), (1, .int a1)]) (st' := [.int ((σ 0 60) - 1), .int 0, .int a1]) (ps := [¬ (b2i (X8_hasPlay (sC σ 0 (am_u (σ 0) 2 0)))) = 0, ¬ a1 = (-1)]) rfl ⟨(b2i_t c1), c2, trivial⟩ ?_
      refine hV.cSi (as := [.int a1, .int 0, .int ((σ 0 60) - 1)]) (js := []) (rest := []) (st := [.int ((σ 0 60) - 1), .int 0, .int a1]) (ws2 := wX8 (sC σ 0 (am_u (σ 0) 2 0))) (pc2 := 28) kX8_276 (c_X8_isIn l a1 0 ((σ 0 60) - 1)) rfl rfl rfl rfl rfl rfl rfl rfl rfl rfl ?_
      by_cases c3 : (X8_isIn a1 0 ((σ 0 60) - 1)) = true
      · rw [if_pos c3] at h
        refine hV.run 1 [1] (ws' := wX8 (sC σ 0 (am_u (σ 0) 2 0))) (pc' := 37) (ls' := [(0, .ref 0), (1, .int a1)]) (st' := []) (ps := [¬ (b2i (X8_isIn a1 0 ((σ 0 60) - 1))) = 0]) rfl ⟨(b2i_t c3), trivial⟩ ?_
        exact p_X8_ring_J37 hV res hP (sC σ 0 (am_u (σ 0) 2 0)) a1 h
      · rw [if_neg c3] at h
        refine hV.run 1 [0] (ws' := wX8 (sC σ 0 (am_u (σ 0) 2 0))) (pc' := 31) (ls' := [(0, .ref 0), (1, .int a1)]) (st' := []) (ps := [(b2i (X8_isIn a1 0 ((σ 0 60) - 1))) = 0]) rfl ⟨(b2i_f c3), trivial⟩ ?_
        refine hV.pick [0] (ls' := [(0, .ref 0)]) rfl ?_
        exact p_X8_ring_J31 hV res hP (sC σ 0 (am_u (σ 0) 2 0)) h
  · rw [if_neg c1] at h
    refine hV.run 1 [1] (ws' := wX8 (sC σ 0 (am_u (σ 0) 2 0))) (pc' := 31) (ls' := [(0, .ref 0), (1, .int a1)]) (st' := []) (ps := [(b2i (X8_hasPlay (sC σ 0 (am_u (σ 0) 2 0)))) = 0]) rfl ⟨(b2i_f c1), trivial⟩ ?_
    refine hV.pick [0] (ls' := [(0, .ref 0)]) rfl ?_
    exact p_X8_ring_J31 hV res hP (sC σ 0 (am_u (σ 0) 2 0)) h

def X8_chose_J37 (σ : am_M) (l1 : Int32) : Option (Int32 × am_M) := if l1 = (-1) then (some ((σ 0 68), σ)) else (if l1 < 0 ∨ 320 ≤ l1.toNatClampNeg then none else (some ((σ 35 l1.toNatClampNeg), σ)))
set_option maxRecDepth 100000 in
set_option maxHeartbeats 4000000 in
theorem p_X8_chose_J37 {l : Launch} {Post : Option Value → am_W → Prop} {V : am_VT} (hV : am_B l RX8 false 2 (am_cdT' tX8_chose) (am_rfL rfX8) (some .int) Post 36 V) (res : (Int32 × am_M)) (hP : Post (some (.int res.1)) (wX8 res.2)) (σ : am_M) (l1 : Int32) (h : X8_chose_J37 σ l1 = some res) : V (wX8 σ) 37 [(0, .ref 0), (1, .int l1)] [] := by
  unfold X8_chose_J37 at h
  by_cases c1 : l1 = (-1)
  · rw [if_pos c1] at h
    refine hV.run 6 [0] (ws' := wX8 σ) (pc' := 55) (ls' := [(0, .ref 0), (1, .int l1)]) (st' := [.int (σ 0 68)]) (ps := [l1 = (-1)]) rfl ⟨c1, trivial⟩ ?_
    cases h
    exact hV.ri rfl rfl rfl hP
  · rw [if_neg c1] at h
    by_cases g2 : l1 < 0 ∨ 320 ≤ l1.toNatClampNeg
    · rw [if_pos g2] at h; cases h
    rw [if_neg g2] at h
    refine hV.run 7 [1] (ws' := wX8 σ) (pc' := 55) (ls' := [(0, .ref 0), (1, .int l1)]) (st' := [.int (σ 35 l1.toNatClampNeg)]) (ps := [¬ l1 = (-1), vp_in l1 320]) rfl ⟨c1, g2, trivial⟩ ?_
    cases h
    exact hV.ri rfl rfl rfl hP
def X8_chose_J31 (σ : am_M) : Option (Int32 × am_M) := (X8_fail σ 1).bind (fun q1 => some (q1.1, q1.2))
set_option maxRecDepth 100000 in
set_option maxHeartbeats 4000000 in
theorem p_X8_chose_J31 {l : Launch} {Post : Option Value → am_W → Prop} {V : am_VT} (hV : am_B l RX8 false 2 (am_cdT' tX8_chose) (am_rfL rfX8) (some .int) Post 36 V) (res : (Int32 × am_M)) (hP : Post (some (.int res.1)) (wX8 res.2)) (σ : am_M) (h : X8_chose_J31 σ = some res) : V (wX8 σ) 31 [(0, .ref 0)] [] := by
  unfold X8_chose_J31 at h
  refine hV.run 2 [] (ws' := wX8 σ) (pc' := 33) (ls' := [(0, .ref 0)]) (st' := [.int 1, .ref 0]) (ps := []) rfl trivial ?_
  obtain ⟨q1, hq1, h⟩ := am_bind h
  refine hV.cOi (as := [.int 1]) (rest := []) (st := [.int 1, .ref 0]) (ws2 := wX8 q1.2) (pc2 := 36) kX8_313 (c_X8_fail l σ 1 q1 hq1) rfl rfl rfl rfl rfl rfl rfl rfl rfl ?_
  cases h
  exact hV.ri rfl rfl rfl hP
def X8_chose (σ : am_M) (a1 : Int32) : Option (Int32 × am_M) := if (X8_hasPlay (sC σ 0 (am_u (σ 0) 2 0))) = true then (if a1 = (-1) then (X8_chose_J37 (sC σ 0 (am_u (σ 0) 2 0)) a1) else (if (X8_isIn a1 0 ((σ 0 68) - 1)) = true then (X8_chose_J37 (sC σ 0 (am_u (σ 0) 2 0)) a1) else (X8_chose_J31 (sC σ 0 (am_u (σ 0) 2 0))))) else (X8_chose_J31 (sC σ 0 (am_u (σ 0) 2 0)))
set_option maxRecDepth 100000 in
set_option maxHeartbeats 4000000 in
theorem c_X8_chose (l : Launch) (σ : am_M) (a1 : Int32) (res : (Int32 × am_M)) (h : X8_chose σ a1 = some res) : am_Con l yX8_chose cX8_chose 2 (some .int) 2 [.ref 0, .int a1] (wX8 σ) (fun (r : Option Value) (w : am_W) => r = (some (.int res.1)) ∧ w = (wX8 res.2)) := by
  refine am_metn (n0 := 36) (own := RX8) (cd := am_cdT' tX8_chose) (rf := am_rfL rfX8) (ini := false) rfl (by decide +kernel) rfl (by decide) dX8_chose rfX8_ok (Nat.le_of_ble_eq_true rfl) ?_
  intro V hV
  have hP : (fun (r : Option Value) (w : am_W) => r = (some (.int res.1)) ∧ w = (wX8 res.2)) (some (.int res.1)) (wX8 res.2) := ⟨rfl, rfl⟩
  show V (wX8 σ) 0 [(0, .ref 0), (1, .int a1)] []
  unfold X8_chose at h
  refine hV.run 4 [] (ws' := wX8 (sC σ 0 (am_u (σ 0) 2 0))) (pc' := 6) (ls' := [(0, .ref 0), (1, .int a1)]) (st' := [.ref 0]) (ps := []) rfl trivial ?_
  refine hV.cOi (as := []) (rest := []) (st := [.ref 0]) (ws2 := wX8 (sC σ 0 (am_u (σ 0) 2 0))) (pc2 := 9) kX8_516 (c_X8_hasPlay l (sC σ 0 (am_u (σ 0) 2 0))) rfl rfl rfl rfl rfl rfl rfl rfl rfl ?_
  by_cases c1 : (X8_hasPlay (sC σ 0 (am_u (σ 0) 2 0))) = true
  · rw [if_pos c1] at h
    by_cases c2 : a1 = (-1)
    · rw [if_pos c2] at h
      refine hV.run 4 [0, 1] (ws' := wX8 (sC σ 0 (am_u (σ 0) 2 0))) (pc' := 37) (ls' := [(0, .ref 0), (1, .int a1)]) (st' := []) (ps := [¬ (b2i (X8_hasPlay (sC σ 0 (am_u (σ 0) 2 0)))) = 0, a1 = (-1)]) rfl ⟨(b2i_t c1), c2, trivial⟩ ?_
      exact p_X8_chose_J37 hV res hP (sC σ 0 (am_u (σ 0) 2 0)) a1 h
    · rw [if_neg c2] at h
      refine hV.run 10 [0, 0] (ws' := wX8 (sC σ 0 (am_u (σ 0) 2 0))) (pc' := 25) (ls' := [(0, .ref 0), (1, .int a1)]) (st' := [.int ((σ 0 68) - 1), .int 0, .int a1]) (ps := [¬ (b2i (X8_hasPlay (sC σ 0 (am_u (σ 0) 2 0)))) = 0, ¬ a1 = (-1)]) rfl ⟨(b2i_t c1), c2, trivial⟩ ?_
      refine hV.cSi (as := [.int a1, .int 0, .int ((σ 0 68) - 1)]) (js := []) (rest := []) (st := [.int ((σ 0 68) - 1), .int 0, .int a1]) (ws2 := wX8 (sC σ 0 (am_u (σ 0) 2 0))) (pc2 := 28) kX8_276 (c_X8_isIn l a1 0 ((σ 0 68) - 1)) rfl rfl rfl rfl rfl rfl rfl rfl rfl rfl ?_
      by_cases c3 : (X8_isIn a1 0 ((σ 0 68) - 1)) = true
      · rw [if_pos c3] at h
        refine hV.run 1 [1] (ws' := wX8 (sC σ 0 (am_u (σ 0) 2 0))) (pc' := 37) (ls' := [(0, .ref 0), (1, .int a1)]) (st' := []) (ps := [¬ (b2i (X8_isIn a1 0 ((σ 0 68) - 1))) = 0]) rfl ⟨(b2i_t c3), trivial⟩ ?_
        exact p_X8_chose_J37 hV res hP (sC σ 0 (am_u (σ 0) 2 0)) a1 h
      · rw [if_neg c3] at h
        refine hV.run 1 [0] (ws' := wX8 (sC σ 0 (am_u (σ 0) 2 0))) (pc' := 31) (ls' := [(0, .ref 0), (1, .int a1)]) (st' := []) (ps := [(b2i (X8_isIn a1 0 ((σ 0 68) - 1))) = 0]) rfl ⟨(b2i_f c3), trivial⟩ ?_
        refine hV.pick [0] (ls' := [(0, .ref 0)]) rfl ?_
        exact p_X8_chose_J31 hV res hP (sC σ 0 (am_u (σ 0) 2 0)) h
  · rw [if_neg c1] at h
    refine hV.run 1 [1] (ws' := wX8 (sC σ 0 (am_u (σ 0) 2 0))) (pc' := 31) (ls' := [(0, .ref 0), (1, .int a1)]) (st' := []) (ps := [(b2i (X8_hasPlay (sC σ 0 (am_u (σ 0) 2 0)))) = 0]) rfl ⟨(b2i_f c1), trivial⟩ ?_
    refine hV.pick [0] (ls' := [(0, .ref 0)]) rfl ?_
    exact p_X8_chose_J31 hV res hP (sC σ 0 (am_u (σ 0) 2 0)) h

def X8_least_J90 (n : Nat) (σ : am_M) (l2 : Int32) (l3 : Int32) (l4 : Int32) : Option (Int32 × am_M) := some (l4, sC σ 0 (am_u (am_u (σ 0) 3 l3) 4 l2))
set_option maxRecDepth 100000 in
set_option maxHeartbeats 4000000 in
theorem p_X8_least_J90 {l : Launch} {Post : Option Value → am_W → Prop} {V : am_VT} (hV : am_B l RX8 false 11 (am_cdT' tX8_least) (am_rfL rfX8) (some .int) Post 36 V) (n : Nat) (res : (Int32 × am_M)) (hP : Post (some (.int res.1)) (wX8 res.2)) (σ : am_M) (l2 : Int32) (l3 : Int32) (l4 : Int32) (h : X8_least_J90 n σ l2 l3 l4 = some res) : V (wX8 σ) 90 [(0, .ref 0), (2, .int l2), (3, .int l3), (4, .int l4)] [] := by
  unfold X8_least_J90 at h
  refine hV.run 7 [] (ws' := wX8 (sC σ 0 (am_u (am_u (σ 0) 3 l3) 4 l2))) (pc' := 102) (ls' := [(0, .ref 0), (2, .int l2), (3, .int l3), (4, .int l4)]) (st' := [.int l4]) (ps := []) rfl trivial ?_
  cases h
  exact hV.ri rfl rfl rfl hP
def X8_least_J84 (n : Nat) (kont51 : am_M → Int32 → Int32 → Int32 → Int32 → Option (Int32 × am_M)) (σ : am_M) (l2 : Int32) (l3 : Int32) (l4 : Int32) (l5 : Int32) : Option (Int32 × am_M) := kont51 σ l2 l3 l4 (l5 + 1)
set_option maxRecDepth 100000 in
set_option maxHeartbeats 4000000 in
theorem p_X8_least_J84 {l : Launch} {Post : Option Value → am_W → Prop} {V : am_VT} (hV : am_B l RX8 false 11 (am_cdT' tX8_least) (am_rfL rfX8) (some .int) Post 36 V) (n : Nat) (res : (Int32 × am_M)) (hP : Post (some (.int res.1)) (wX8 res.2)) (kont51 : am_M → Int32 → Int32 → Int32 → Int32 → Option (Int32 × am_M)) (hk51 : ∀ (σ : am_M) (l2 : Int32) (l3 : Int32) (l4 : Int32) (l5 : Int32), kont51 σ l2 l3 l4 l5 = some res → V (wX8 σ) 51 [(0, .ref 0), (2, .int l2), (3, .int l3), (4, .int l4), (5, .int l5)] []) (σ : am_M) (l2 : Int32) (l3 : Int32) (l4 : Int32) (l5 : Int32) (h : X8_least_J84 n kont51 σ l2 l3 l4 l5 = some res) : V (wX8 σ) 84 [(0, .ref 0), (2, .int l2), (3, .int l3), (4, .int l4), (5, .int l5)] [] := by
  unfold X8_least_J84 at h
  refine hV.run 2 [] (ws' := wX8 σ) (pc' := 51) (ls' := [(5, .int (l5 + 1)), (0, .ref 0), (2, .int l2), (3, .int l3), (4, .int l4)]) (st' := []) (ps := []) rfl trivial ?_
  refine hV.pick [1, 2, 3, 4, 0] (ls' := [(0, .ref 0), (2, .int l2), (3, .int l3), (4, .int l4), (5, .int (l5 + 1))]) rfl ?_
  exact hk51 σ l2 l3 l4 (l5 + 1) h
def X8_least_B51 (n : Nat) (kont51 : am_M → Int32 → Int32 → Int32 → Int32 → Option (Int32 × am_M)) (σ : am_M) (l2 : Int32) (l3 : Int32) (l4 : Int32) (l5 : Int32) : Option (Int32 × am_M) := if 8 < l5 then (X8_least_J90 n σ l2 l3 l4) else (if l4 = (-1) then (X8_run n (sC σ 0 (am_u (σ 0) 3 l5)) 0 0).bind (fun q3 => if q3.1 = 2 then (X8_least_J84 n kont51 q3.2 l2 l3 l5 l5) else (X8_least_J84 n kont51 q3.2 l2 l3 l4 l5)) else (X8_least_J90 n σ l2 l3 l4))
def X8_least_L51 (n : Nat) : Nat → am_M → Int32 → Int32 → Int32 → Int32 → Option (Int32 × am_M)
 | 0 => fun _ _ _ _ _ => none
 | k + 1 => fun σ l2 l3 l4 l5 => X8_least_B51 n (X8_least_L51 n k) σ l2 l3 l4 l5
set_option maxRecDepth 100000 in
set_option maxHeartbeats 4000000 in
theorem p_X8_least_B51 {l : Launch} {Post : Option Value → am_W → Prop} {V : am_VT} (hV : am_B l RX8 false 11 (am_cdT' tX8_least) (am_rfL rfX8) (some .int) Post 36 V) (n : Nat) (res : (Int32 × am_M)) (hP : Post (some (.int res.1)) (wX8 res.2)) (kont51 : am_M → Int32 → Int32 → Int32 → Int32 → Option (Int32 × am_M)) (hk51 : ∀ (σ : am_M) (l2 : Int32) (l3 : Int32) (l4 : Int32) (l5 : Int32), kont51 σ l2 l3 l4 l5 = some res → V (wX8 σ) 51 [(0, .ref 0), (2, .int l2), (3, .int l3), (4, .int l4), (5, .int l5)] []) (σ : am_M) (l2 : Int32) (l3 : Int32) (l4 : Int32) (l5 : Int32) (h : X8_least_B51 n kont51 σ l2 l3 l4 l5 = some res) : V (wX8 σ) 51 [(0, .ref 0), (2, .int l2), (3, .int l3), (4, .int l4), (5, .int l5)] [] := by
  unfold X8_least_B51 at h
  by_cases c1 : 8 < l5
  · rw [if_pos c1] at h
    refine hV.run 3 [1] (ws' := wX8 σ) (pc' := 90) (ls' := [(0, .ref 0), (2, .int l2), (3, .int l3), (4, .int l4), (5, .int l5)]) (st' := []) (ps := [8 < l5]) rfl ⟨c1, trivial⟩ ?_
    refine hV.pick [0, 1, 2, 3] (ls' := [(0, .ref 0), (2, .int l2), (3, .int l3), (4, .int l4)]) rfl ?_
    exact p_X8_least_J90 hV n res hP σ l2 l3 l4 h
  · rw [if_neg c1] at h
    by_cases c2 : l4 = (-1)
    · rw [if_pos c2] at h
      refine hV.run 12 [0, 0] (ws' := wX8 (sC σ 0 (am_u (σ 0) 3 l5))) (pc' := 73) (ls' := [(0, .ref 0), (2, .int l2), (3, .int l3), (4, .int l4), (5, .int l5)]) (st' := [.long 0, .int 0, .ref 0]) (ps := [¬ 8 < l5, l4 = (-1)]) rfl ⟨c1, c2, trivial⟩ ?_
      obtain ⟨q3, hq3, h⟩ := am_bind h
      refine hV.cOi (as := [.int 0, .long 0]) (rest := []) (st := [.long 0, .int 0, .ref 0]) (ws2 := wX8 q3.2) (pc2 := 76) kX8_500 (c_X8_run l n (sC σ 0 (am_u (σ 0) 3 l5)) 0 0 q3 hq3) rfl rfl rfl rfl rfl rfl rfl rfl rfl ?_
      by_cases c4 : q3.1 = 2
      · rw [if_pos c4] at h
        refine hV.run 4 [0] (ws' := wX8 q3.2) (pc' := 84) (ls' := [(4, .int l5), (0, .ref 0), (2, .int l2), (3, .int l3), (5, .int l5)]) (st' := []) (ps := [q3.1 = 2]) rfl ⟨c4, trivial⟩ ?_
        refine hV.pick [1, 2, 3, 0, 4] (ls' := [(0, .ref 0), (2, .int l2), (3, .int l3), (4, .int l5), (5, .int l5)]) rfl ?_
        exact p_X8_least_J84 hV n res hP kont51 hk51 q3.2 l2 l3 l5 l5 h
      · rw [if_neg c4] at h
        refine hV.run 2 [1] (ws' := wX8 q3.2) (pc' := 84) (ls' := [(0, .ref 0), (2, .int l2), (3, .int l3), (4, .int l4), (5, .int l5)]) (st' := []) (ps := [¬ q3.1 = 2]) rfl ⟨c4, trivial⟩ ?_
        exact p_X8_least_J84 hV n res hP kont51 hk51 q3.2 l2 l3 l4 l5 h
    · rw [if_neg c2] at h
      refine hV.run 6 [0, 1] (ws' := wX8 σ) (pc' := 90) (ls' := [(0, .ref 0), (2, .int l2), (3, .int l3), (4, .int l4), (5, .int l5)]) (st' := []) (ps := [¬ 8 < l5, ¬ l4 = (-1)]) rfl ⟨c1, c2, trivial⟩ ?_
      refine hV.pick [0, 1, 2, 3] (ls' := [(0, .ref 0), (2, .int l2), (3, .int l3), (4, .int l4)]) rfl ?_
      exact p_X8_least_J90 hV n res hP σ l2 l3 l4 h
theorem p_X8_least_L51 {l : Launch} {Post : Option Value → am_W → Prop} {V : am_VT} (hV : am_B l RX8 false 11 (am_cdT' tX8_least) (am_rfL rfX8) (some .int) Post 36 V) (n : Nat) (res : (Int32 × am_M)) (hP : Post (some (.int res.1)) (wX8 res.2)) : ∀ (k : Nat) (σ : am_M) (l2 : Int32) (l3 : Int32) (l4 : Int32) (l5 : Int32) (h : X8_least_L51 n k σ l2 l3 l4 l5 = some res), V (wX8 σ) 51 [(0, .ref 0), (2, .int l2), (3, .int l3), (4, .int l4), (5, .int l5)] [] := by
  intro k
  induction k with
  | zero => intro σ l2 l3 l4 l5 h; cases h
  | succ k ih => intro σ l2 l3 l4 l5 h; exact p_X8_least_B51 hV n res hP _ ih σ l2 l3 l4 l5 h
def X8_least (n : Nat) (σ : am_M) (a1 : Int32) : Option (Int32 × am_M) := if (X8_isIn a1 0 3) = true then (X8_anySteps n (sC σ 0 (am_u (σ 0) 2 0))).bind (fun q2 => if q2 ≤ 0 then (X8_least_L51 n n (sC σ 0 (am_u (am_u (σ 0) 2 0) 4 a1)) (σ 0 4) (σ 0 3) (-1) 2) else (some ((-2), sC σ 0 (am_u (σ 0) 2 0)))) else (X8_fail (sC σ 0 (am_u (σ 0) 2 0)) 1).bind (fun q4 => some (q4.1, q4.2))
set_option maxRecDepth 100000 in
set_option maxHeartbeats 4000000 in
theorem c_X8_least (l : Launch) (n : Nat) (σ : am_M) (a1 : Int32) (res : (Int32 × am_M)) (h : X8_least n σ a1 = some res) : am_Con l yX8_least cX8_least 6 (some .int) 11 [.ref 0, .int a1] (wX8 σ) (fun (r : Option Value) (w : am_W) => r = (some (.int res.1)) ∧ w = (wX8 res.2)) := by
  refine am_metn (n0 := 36) (own := RX8) (cd := am_cdT' tX8_least) (rf := am_rfL rfX8) (ini := false) rfl (by decide +kernel) rfl (by decide) dX8_least rfX8_ok (Nat.le_of_ble_eq_true rfl) ?_
  intro V hV
  have hP : (fun (r : Option Value) (w : am_W) => r = (some (.int res.1)) ∧ w = (wX8 res.2)) (some (.int res.1)) (wX8 res.2) := ⟨rfl, rfl⟩
  show V (wX8 σ) 0 [(0, .ref 0), (1, .int a1)] []
  unfold X8_least at h
  refine hV.run 6 [] (ws' := wX8 (sC σ 0 (am_u (σ 0) 2 0))) (pc' := 8) (ls' := [(0, .ref 0), (1, .int a1)]) (st' := [.int 3, .int 0, .int a1]) (ps := []) rfl trivial ?_
  refine hV.cSi (as := [.int a1, .int 0, .int 3]) (js := []) (rest := []) (st := [.int 3, .int 0, .int a1]) (ws2 := wX8 (sC σ 0 (am_u (σ 0) 2 0))) (pc2 := 11) kX8_276 (c_X8_isIn l a1 0 3) rfl rfl rfl rfl rfl rfl rfl rfl rfl rfl ?_
  by_cases c1 : (X8_isIn a1 0 3) = true
  · rw [if_pos c1] at h
    refine hV.run 2 [1] (ws' := wX8 (sC σ 0 (am_u (σ 0) 2 0))) (pc' := 21) (ls' := [(0, .ref 0), (1, .int a1)]) (st' := [.ref 0]) (ps := [¬ (b2i (X8_isIn a1 0 3)) = 0]) rfl ⟨(b2i_t c1), trivial⟩ ?_
    obtain ⟨q2, hq2, h⟩ := am_bind h
    refine hV.cOi (as := []) (rest := []) (st := [.ref 0]) (ws2 := wX8 (sC σ 0 (am_u (σ 0) 2 0))) (pc2 := 24) kX8_331 (c_X8_anySteps l n (sC σ 0 (am_u (σ 0) 2 0)) q2 hq2) rfl rfl rfl rfl rfl rfl rfl rfl rfl ?_
    by_cases c3 : q2 ≤ 0
    · rw [if_pos c3] at h
      refine hV.run 14 [1] (ws' := wX8 (sC σ 0 (am_u (am_u (σ 0) 2 0) 4 a1))) (pc' := 51) (ls' := [(5, .int 2), (4, .int (-1)), (3, .int (σ 0 3)), (2, .int (σ 0 4)), (0, .ref 0), (1, .int a1)]) (st' := []) (ps := [q2 ≤ 0]) rfl ⟨c3, trivial⟩ ?_
      refine hV.pick [4, 3, 2, 1, 0] (ls' := [(0, .ref 0), (2, .int (σ 0 4)), (3, .int (σ 0 3)), (4, .int (-1)), (5, .int 2)]) rfl ?_
      exact p_X8_least_L51 hV n res hP n (sC σ 0 (am_u (am_u (σ 0) 2 0) 4 a1)) (σ 0 4) (σ 0 3) (-1) 2 h
    · rw [if_neg c3] at h
      refine hV.run 2 [0] (ws' := wX8 (sC σ 0 (am_u (σ 0) 2 0))) (pc' := 29) (ls' := [(0, .ref 0), (1, .int a1)]) (st' := [.int (-2)]) (ps := [¬ q2 ≤ 0]) rfl ⟨c3, trivial⟩ ?_
      cases h
      exact hV.ri rfl rfl rfl hP
  · rw [if_neg c1] at h
    refine hV.run 3 [0] (ws' := wX8 (sC σ 0 (am_u (σ 0) 2 0))) (pc' := 16) (ls' := [(0, .ref 0), (1, .int a1)]) (st' := [.int 1, .ref 0]) (ps := [(b2i (X8_isIn a1 0 3)) = 0]) rfl ⟨(b2i_f c1), trivial⟩ ?_
    obtain ⟨q4, hq4, h⟩ := am_bind h
    refine hV.cOi (as := [.int 1]) (rest := []) (st := [.int 1, .ref 0]) (ws2 := wX8 q4.2) (pc2 := 19) kX8_313 (c_X8_fail l (sC σ 0 (am_u (σ 0) 2 0)) 1 q4 hq4) rfl rfl rfl rfl rfl rfl rfl rfl rfl ?_
    cases h
    exact hV.ri rfl rfl rfl hP

def X8_feed_J76 (n : Nat) (kont23 : am_M → Int32 → Int32 → Int32 → Int32 → Int32 → Int32 → Option (Int32 × am_M)) (σ : am_M) (l1 : Int32) (l2 : Int32) (l3 : Int32) (l4 : Int32) (l5 : Int32) (l6 : Int32) (s0 : Int32) : Option (Int32 × am_M) := if (σ 0 10) < 0 ∨ 700 ≤ (σ 0 10).toNatClampNeg then none else (kont23 (sC (sC σ 0 (am_u (σ 0) 10 ((σ 0 10) + 1))) 3 (upd (σ 3) (σ 0 10).toNatClampNeg ((s0 >>> ((24 - (8 * (l6 - l6 / 4 * 4))) &&& 31)) &&& 255))) l1 l2 l3 l4 l5 (l6 + 1))
set_option maxRecDepth 100000 in
set_option maxHeartbeats 4000000 in
theorem p_X8_feed_J76 {l : Launch} {Post : Option Value → am_W → Prop} {V : am_VT} (hV : am_B l RX8 false 1 (am_cdT' tX8_feed) (am_rfL rfX8) (some .int) Post 36 V) (n : Nat) (res : (Int32 × am_M)) (hP : Post (some (.int res.1)) (wX8 res.2)) (kont23 : am_M → Int32 → Int32 → Int32 → Int32 → Int32 → Int32 → Option (Int32 × am_M)) (hk23 : ∀ (σ : am_M) (l1 : Int32) (l2 : Int32) (l3 : Int32) (l4 : Int32) (l5 : Int32) (l6 : Int32), kont23 σ l1 l2 l3 l4 l5 l6 = some res → V (wX8 σ) 23 [(0, .ref 0), (1, .int l1), (2, .int l2), (3, .int l3), (4, .int l4), (5, .int l5), (6, .int l6)] []) (σ : am_M) (l1 : Int32) (l2 : Int32) (l3 : Int32) (l4 : Int32) (l5 : Int32) (l6 : Int32) (s0 : Int32) (h : X8_feed_J76 n kont23 σ l1 l2 l3 l4 l5 l6 s0 = some res) : V (wX8 σ) 76 [(0, .ref 0), (1, .int l1), (2, .int l2), (3, .int l3), (4, .int l4), (5, .int l5), (6, .int l6)] [.int s0] := by
  unfold X8_feed_J76 at h
  by_cases g1 : (σ 0 10) < 0 ∨ 700 ≤ (σ 0 10).toNatClampNeg
  · rw [if_pos g1] at h; cases h
  rw [if_neg g1] at h
  refine hV.run 25 [] (ws' := wX8 (sC (sC σ 0 (am_u (σ 0) 10 ((σ 0 10) + 1))) 3 (upd (σ 3) (σ 0 10).toNatClampNeg ((s0 >>> ((24 - (8 * (l6 - l6 / 4 * 4))) &&& 31)) &&& 255)))) (pc' := 23) (ls' := [(6, .int (l6 + 1)), (7, .int s0), (0, .ref 0), (1, .int l1), (2, .int l2), (3, .int l3), (4, .int l4), (5, .int l5)]) (st' := []) (ps := [¬ (4 : Int32) = 0, vp_in (σ 0 10) 700]) rfl ⟨(by decide), g1, trivial⟩ ?_
  refine hV.pick [2, 3, 4, 5, 6, 7, 0] (ls' := [(0, .ref 0), (1, .int l1), (2, .int l2), (3, .int l3), (4, .int l4), (5, .int l5), (6, .int (l6 + 1))]) rfl ?_
  exact hk23 (sC (sC σ 0 (am_u (σ 0) 10 ((σ 0 10) + 1))) 3 (upd (σ 3) (σ 0 10).toNatClampNeg ((s0 >>> ((24 - (8 * (l6 - l6 / 4 * 4))) &&& 31)) &&& 255))) l1 l2 l3 l4 l5 (l6 + 1) h
def X8_feed_B23 (n : Nat) (kont23 : am_M → Int32 → Int32 → Int32 → Int32 → Int32 → Int32 → Option (Int32 × am_M)) (σ : am_M) (l1 : Int32) (l2 : Int32) (l3 : Int32) (l4 : Int32) (l5 : Int32) (l6 : Int32) : Option (Int32 × am_M) := if 20 ≤ l6 then (some ((σ 0 10), σ)) else (if 4 ≤ l6 then (if 8 ≤ l6 then (if 12 ≤ l6 then (if 16 ≤ l6 then (X8_feed_J76 n kont23 σ l1 l2 l3 l4 l5 l6 l5) else (X8_feed_J76 n kont23 σ l1 l2 l3 l4 l5 l6 l4)) else (X8_feed_J76 n kont23 σ l1 l2 l3 l4 l5 l6 l3)) else (X8_feed_J76 n kont23 σ l1 l2 l3 l4 l5 l6 l2)) else (X8_feed_J76 n kont23 σ l1 l2 l3 l4 l5 l6 l1))
def X8_feed_L23 (n : Nat) : Nat → am_M → Int32 → Int32 → Int32 → Int32 → Int32 → Int32 → Option (Int32 × am_M)
 | 0 => fun _ _ _ _ _ _ _ => none
 | k + 1 => fun σ l1 l2 l3 l4 l5 l6 => X8_feed_B23 n (X8_feed_L23 n k) σ l1 l2 l3 l4 l5 l6
set_option maxRecDepth 100000 in
set_option maxHeartbeats 4000000 in
theorem p_X8_feed_B23 {l : Launch} {Post : Option Value → am_W → Prop} {V : am_VT} (hV : am_B l RX8 false 1 (am_cdT' tX8_feed) (am_rfL rfX8) (some .int) Post 36 V) (n : Nat) (res : (Int32 × am_M)) (hP : Post (some (.int res.1)) (wX8 res.2)) (kont23 : am_M → Int32 → Int32 → Int32 → Int32 → Int32 → Int32 → Option (Int32 × am_M)) (hk23 : ∀ (σ : am_M) (l1 : Int32) (l2 : Int32) (l3 : Int32) (l4 : Int32) (l5 : Int32) (l6 : Int32), kont23 σ l1 l2 l3 l4 l5 l6 = some res → V (wX8 σ) 23 [(0, .ref 0), (1, .int l1), (2, .int l2), (3, .int l3), (4, .int l4), (5, .int l5), (6, .int l6)] []) (σ : am_M) (l1 : Int32) (l2 : Int32) (l3 : Int32) (l4 : Int32) (l5 : Int32) (l6 : Int32) (h : X8_feed_B23 n kont23 σ l1 l2 l3 l4 l5 l6 = some res) : V (wX8 σ) 23 [(0, .ref 0), (1, .int l1), (2, .int l2), (3, .int l3), (4, .int l4), (5, .int l5), (6, .int l6)] [] := by
  unfold X8_feed_B23 at h
  by_cases c1 : 20 ≤ l6
  · rw [if_pos c1] at h
    refine hV.run 5 [1] (ws' := wX8 σ) (pc' := 124) (ls' := [(0, .ref 0), (1, .int l1), (2, .int l2), (3, .int l3), (4, .int l4), (5, .int l5), (6, .int l6)]) (st' := [.int (σ 0 10)]) (ps := [20 ≤ l6]) rfl ⟨c1, trivial⟩ ?_
    cases h
    exact hV.ri rfl rfl rfl hP
  · rw [if_neg c1] at h
    by_cases c2 : 4 ≤ l6
    · rw [if_pos c2] at h
      by_cases c3 : 8 ≤ l6
      · rw [if_pos c3] at h
        by_cases c4 : 12 ≤ l6
        · rw [if_pos c4] at h
          by_cases c5 : 16 ≤ l6
          · rw [if_pos c5] at h
            refine hV.run 16 [0, 1, 1, 1, 1] (ws' := wX8 σ) (pc' := 76) (ls' := [(0, .ref 0), (1, .int l1), (2, .int l2), (3, .int l3), (4, .int l4), (5, .int l5), (6, .int l6)]) (st' := [.int l5]) (ps := [¬ 20 ≤ l6, 4 ≤ l6, 8 ≤ l6, 12 ≤ l6, 16 ≤ l6]) rfl ⟨c1, c2, c3, c4, c5, trivial⟩ ?_
            exact p_X8_feed_J76 hV n res hP kont23 hk23 σ l1 l2 l3 l4 l5 l6 l5 h
          · rw [if_neg c5] at h
            refine hV.run 17 [0, 1, 1, 1, 0] (ws' := wX8 σ) (pc' := 76) (ls' := [(0, .ref 0), (1, .int l1), (2, .int l2), (3, .int l3), (4, .int l4), (5, .int l5), (6, .int l6)]) (st' := [.int l4]) (ps := [¬ 20 ≤ l6, 4 ≤ l6, 8 ≤ l6, 12 ≤ l6, ¬ 16 ≤ l6]) rfl ⟨c1, c2, c3, c4, c5, trivial⟩ ?_
            exact p_X8_feed_J76 hV n res hP kont23 hk23 σ l1 l2 l3 l4 l5 l6 l4 h
        · rw [if_neg c4] at h
          refine hV.run 14 [0, 1, 1, 0] (ws' := wX8 σ) (pc' := 76) (ls' := [(0, .ref 0), (1, .int l1), (2, .int l2), (3, .int l3), (4, .int l4), (5, .int l5), (6, .int l6)]) (st' := [.int l3]) (ps := [¬ 20 ≤ l6, 4 ≤ l6, 8 ≤ l6, ¬ 12 ≤ l6]) rfl ⟨c1, c2, c3, c4, trivial⟩ ?_
          exact p_X8_feed_J76 hV n res hP kont23 hk23 σ l1 l2 l3 l4 l5 l6 l3 h
      · rw [if_neg c3] at h
        refine hV.run 11 [0, 1, 0] (ws' := wX8 σ) (pc' := 76) (ls' := [(0, .ref 0), (1, .int l1), (2, .int l2), (3, .int l3), (4, .int l4), (5, .int l5), (6, .int l6)]) (st' := [.int l2]) (ps := [¬ 20 ≤ l6, 4 ≤ l6, ¬ 8 ≤ l6]) rfl ⟨c1, c2, c3, trivial⟩ ?_
        exact p_X8_feed_J76 hV n res hP kont23 hk23 σ l1 l2 l3 l4 l5 l6 l2 h
    · rw [if_neg c2] at h
      refine hV.run 8 [0, 0] (ws' := wX8 σ) (pc' := 76) (ls' := [(0, .ref 0), (1, .int l1), (2, .int l2), (3, .int l3), (4, .int l4), (5, .int l5), (6, .int l6)]) (st' := [.int l1]) (ps := [¬ 20 ≤ l6, ¬ 4 ≤ l6]) rfl ⟨c1, c2, trivial⟩ ?_
      exact p_X8_feed_J76 hV n res hP kont23 hk23 σ l1 l2 l3 l4 l5 l6 l1 h
theorem p_X8_feed_L23 {l : Launch} {Post : Option Value → am_W → Prop} {V : am_VT} (hV : am_B l RX8 false 1 (am_cdT' tX8_feed) (am_rfL rfX8) (some .int) Post 36 V) (n : Nat) (res : (Int32 × am_M)) (hP : Post (some (.int res.1)) (wX8 res.2)) : ∀ (k : Nat) (σ : am_M) (l1 : Int32) (l2 : Int32) (l3 : Int32) (l4 : Int32) (l5 : Int32) (l6 : Int32) (h : X8_feed_L23 n k σ l1 l2 l3 l4 l5 l6 = some res), V (wX8 σ) 23 [(0, .ref 0), (1, .int l1), (2, .int l2), (3, .int l3), (4, .int l4), (5, .int l5), (6, .int l6)] [] := by
  intro k
  induction k with
  | zero => intro σ l1 l2 l3 l4 l5 l6 h; cases h
  | succ k ih => intro σ l1 l2 l3 l4 l5 l6 h; exact p_X8_feed_B23 hV n res hP _ ih σ l1 l2 l3 l4 l5 l6 h
def X8_feed (n : Nat) (σ : am_M) (a1 : Int32) (a2 : Int32) (a3 : Int32) (a4 : Int32) (a5 : Int32) : Option (Int32 × am_M) := if ((σ 0 10) + 20) ≤ 700 then (X8_feed_L23 n n (sC σ 0 (am_u (σ 0) 2 0)) a1 a2 a3 a4 a5 0) else (some ((-1), sC σ 0 (am_u (σ 0) 2 0)))
set_option maxRecDepth 100000 in
set_option maxHeartbeats 4000000 in
theorem c_X8_feed (l : Launch) (n : Nat) (σ : am_M) (a1 : Int32) (a2 : Int32) (a3 : Int32) (a4 : Int32) (a5 : Int32) (res : (Int32 × am_M)) (h : X8_feed n σ a1 a2 a3 a4 a5 = some res) : am_Con l yX8_feed cX8_feed 8 (some .int) 1 [.ref 0, .int a1, .int a2, .int a3, .int a4, .int a5] (wX8 σ) (fun (r : Option Value) (w : am_W) => r = (some (.int res.1)) ∧ w = (wX8 res.2)) := by
  refine am_metn (n0 := 36) (own := RX8) (cd := am_cdT' tX8_feed) (rf := am_rfL rfX8) (ini := false) rfl (by decide +kernel) rfl (by decide) dX8_feed rfX8_ok (Nat.le_of_ble_eq_true rfl) ?_
  intro V hV
  have hP : (fun (r : Option Value) (w : am_W) => r = (some (.int res.1)) ∧ w = (wX8 res.2)) (some (.int res.1)) (wX8 res.2) := ⟨rfl, rfl⟩
  show V (wX8 σ) 0 [(0, .ref 0), (1, .int a1), (2, .int a2), (3, .int a3), (4, .int a4), (5, .int a5)] []
  unfold X8_feed at h
  by_cases c1 : ((σ 0 10) + 20) ≤ 700
  · rw [if_pos c1] at h
    refine hV.run 11 [1] (ws' := wX8 (sC σ 0 (am_u (σ 0) 2 0))) (pc' := 23) (ls' := [(6, .int 0), (0, .ref 0), (1, .int a1), (2, .int a2), (3, .int a3), (4, .int a4), (5, .int a5)]) (st' := []) (ps := [((σ 0 10) + 20) ≤ 700]) rfl ⟨c1, trivial⟩ ?_
    refine hV.pick [1, 2, 3, 4, 5, 6, 0] (ls' := [(0, .ref 0), (1, .int a1), (2, .int a2), (3, .int a3), (4, .int a4), (5, .int a5), (6, .int 0)]) rfl ?_
    exact p_X8_feed_L23 hV n res hP n (sC σ 0 (am_u (σ 0) 2 0)) a1 a2 a3 a4 a5 0 h
  · rw [if_neg c1] at h
    refine hV.run 10 [0] (ws' := wX8 (sC σ 0 (am_u (σ 0) 2 0))) (pc' := 19) (ls' := [(0, .ref 0), (1, .int a1), (2, .int a2), (3, .int a3), (4, .int a4), (5, .int a5)]) (st' := [.int (-1)]) (ps := [¬ ((σ 0 10) + 20) ≤ 700]) rfl ⟨c1, trivial⟩ ?_
    cases h
    exact hV.ri rfl rfl rfl hP

