def X8_run_J213 (n : Nat) (kont55 : am_M → Int32 → Int64 → Int32 → Int32 → Option (Int32 × am_M)) (σ : am_M) (l1 : Int32) (l2 : Int64) (l4 : Int32) (l5 : Int32) : Option (Int32 × am_M) := kont55 σ l1 l2 l4 l5
set_option maxRecDepth 100000 in
set_option maxHeartbeats 4000000 in
theorem p_X8_run_J213 {l : Launch} {Post : Option Value → am_W → Prop} {V : am_VT} (hV : am_B l RX8 false 10 (am_cdT' tX8_run) (am_rfL rfX8) (some .int) Post 36 V) (n : Nat) (res : (Int32 × am_M)) (hP : Post (some (.int res.1)) (wX8 res.2)) (kont55 : am_M → Int32 → Int64 → Int32 → Int32 → Option (Int32 × am_M)) (hk55 : ∀ (σ : am_M) (l1 : Int32) (l2 : Int64) (l4 : Int32) (l5 : Int32), kont55 σ l1 l2 l4 l5 = some res → V (wX8 σ) 55 [(0, .ref 0), (1, .int l1), (2, .long l2), (4, .int l4), (5, .int l5)] []) (σ : am_M) (l1 : Int32) (l2 : Int64) (l4 : Int32) (l5 : Int32) (h : X8_run_J213 n kont55 σ l1 l2 l4 l5 = some res) : V (wX8 σ) 213 [(0, .ref 0), (1, .int l1), (2, .long l2), (4, .int l4), (5, .int l5)] [] := by
  unfold X8_run_J213 at h
  refine hV.run 1 [] (ws' := wX8 σ) (pc' := 55) (ls' := [(0, .ref 0), (1, .int l1), (2, .long l2), (4, .int l4), (5, .int l5)]) (st' := []) (ps := []) rfl trivial ?_
  exact hk55 σ l1 l2 l4 l5 h
def X8_run_J207 (n : Nat) (kont90 : am_M → Int32 → Int64 → Int32 → Int32 → Int32 → Option (Int32 × am_M)) (σ : am_M) (l1 : Int32) (l2 : Int64) (l4 : Int32) (l5 : Int32) (l6 : Int32) : Option (Int32 × am_M) := kont90 σ l1 l2 l4 l5 (l6 + 1)
set_option maxRecDepth 100000 in
set_option maxHeartbeats 4000000 in
theorem p_X8_run_J207 {l : Launch} {Post : Option Value → am_W → Prop} {V : am_VT} (hV : am_B l RX8 false 10 (am_cdT' tX8_run) (am_rfL rfX8) (some .int) Post 36 V) (n : Nat) (res : (Int32 × am_M)) (hP : Post (some (.int res.1)) (wX8 res.2)) (kont90 : am_M → Int32 → Int64 → Int32 → Int32 → Int32 → Option (Int32 × am_M)) (hk90 : ∀ (σ : am_M) (l1 : Int32) (l2 : Int64) (l4 : Int32) (l5 : Int32) (l6 : Int32), kont90 σ l1 l2 l4 l5 l6 = some res → V (wX8 σ) 90 [(0, .ref 0), (1, .int l1), (2, .long l2), (4, .int l4), (5, .int l5), (6, .int l6)] []) (σ : am_M) (l1 : Int32) (l2 : Int64) (l4 : Int32) (l5 : Int32) (l6 : Int32) (h : X8_run_J207 n kont90 σ l1 l2 l4 l5 l6 = some res) : V (wX8 σ) 207 [(0, .ref 0), (1, .int l1), (2, .long l2), (4, .int l4), (5, .int l5), (6, .int l6)] [] := by
  unfold X8_run_J207 at h
  refine hV.run 2 [] (ws' := wX8 σ) (pc' := 90) (ls' := [(6, .int (l6 + 1)), (0, .ref 0), (1, .int l1), (2, .long l2), (4, .int l4), (5, .int l5)]) (st' := []) (ps := []) rfl trivial ?_
  refine hV.pick [1, 2, 3, 4, 5, 0] (ls' := [(0, .ref 0), (1, .int l1), (2, .long l2), (4, .int l4), (5, .int l5), (6, .int (l6 + 1))]) rfl ?_
  exact hk90 σ l1 l2 l4 l5 (l6 + 1) h
def X8_run_J201 (n : Nat) (kont116 : am_M → Int32 → Int64 → Int32 → Int32 → Int32 → Int32 → Int32 → Option (Int32 × am_M)) (σ : am_M) (l1 : Int32) (l2 : Int64) (l4 : Int32) (l5 : Int32) (l6 : Int32) (l7 : Int32) (l8 : Int32) : Option (Int32 × am_M) := kont116 σ l1 l2 l4 l5 l6 l7 (l8 + 1)
set_option maxRecDepth 100000 in
set_option maxHeartbeats 4000000 in
theorem p_X8_run_J201 {l : Launch} {Post : Option Value → am_W → Prop} {V : am_VT} (hV : am_B l RX8 false 10 (am_cdT' tX8_run) (am_rfL rfX8) (some .int) Post 36 V) (n : Nat) (res : (Int32 × am_M)) (hP : Post (some (.int res.1)) (wX8 res.2)) (kont116 : am_M → Int32 → Int64 → Int32 → Int32 → Int32 → Int32 → Int32 → Option (Int32 × am_M)) (hk116 : ∀ (σ : am_M) (l1 : Int32) (l2 : Int64) (l4 : Int32) (l5 : Int32) (l6 : Int32) (l7 : Int32) (l8 : Int32), kont116 σ l1 l2 l4 l5 l6 l7 l8 = some res → V (wX8 σ) 116 [(0, .ref 0), (1, .int l1), (2, .long l2), (4, .int l4), (5, .int l5), (6, .int l6), (7, .int l7), (8, .int l8)] []) (σ : am_M) (l1 : Int32) (l2 : Int64) (l4 : Int32) (l5 : Int32) (l6 : Int32) (l7 : Int32) (l8 : Int32) (h : X8_run_J201 n kont116 σ l1 l2 l4 l5 l6 l7 l8 = some res) : V (wX8 σ) 201 [(0, .ref 0), (1, .int l1), (2, .long l2), (4, .int l4), (5, .int l5), (6, .int l6), (7, .int l7), (8, .int l8)] [] := by
  unfold X8_run_J201 at h
  refine hV.run 2 [] (ws' := wX8 σ) (pc' := 116) (ls' := [(8, .int (l8 + 1)), (0, .ref 0), (1, .int l1), (2, .long l2), (4, .int l4), (5, .int l5), (6, .int l6), (7, .int l7)]) (st' := []) (ps := []) rfl trivial ?_
  refine hV.pick [1, 2, 3, 4, 5, 6, 7, 0] (ls' := [(0, .ref 0), (1, .int l1), (2, .long l2), (4, .int l4), (5, .int l5), (6, .int l6), (7, .int l7), (8, .int (l8 + 1))]) rfl ?_
  exact hk116 σ l1 l2 l4 l5 l6 l7 (l8 + 1) h
def X8_run_J131 (n : Nat) (kont90 : am_M → Int32 → Int64 → Int32 → Int32 → Int32 → Option (Int32 × am_M)) (kont116 : am_M → Int32 → Int64 → Int32 → Int32 → Int32 → Int32 → Int32 → Option (Int32 × am_M)) (σ : am_M) (l1 : Int32) (l2 : Int64) (l4 : Int32) (l5 : Int32) (l6 : Int32) (l7 : Int32) (l8 : Int32) (s0 : Int32) (s1 : Int32) : Option (Int32 × am_M) := if s0 ≤ s1 then (X8_run_J207 n kont90 σ l1 l2 l4 l5 l6) else (if l5 = 0 then (X8_can n σ l6 l8).bind (fun q3 => if q3.1 = true then (X8_move n q3.2 l6 l8).bind (fun q5 => if (q5 0 40) = (-1) then (X8_run_J201 n kont116 q5 l1 l2 l4 1 l6 l7 l8) else (if (q5 0 59) < 0 ∨ 320 ≤ (q5 0 59).toNatClampNeg then none else (X8_run_J201 n kont116 (sC (sC q5 0 (am_u (q5 0) 59 ((q5 0 59) + 1))) 29 (upd (q5 29) (q5 0 59).toNatClampNeg (q5 0 41))) l1 l2 (l4 + 1) 1 l6 l7 l8))) else (X8_run_J201 n kont116 q3.2 l1 l2 l4 l5 l6 l7 l8)) else (X8_run_J207 n kont90 σ l1 l2 l4 l5 l6))
set_option maxRecDepth 100000 in
set_option maxHeartbeats 4000000 in
theorem p_X8_run_J131 {l : Launch} {Post : Option Value → am_W → Prop} {V : am_VT} (hV : am_B l RX8 false 10 (am_cdT' tX8_run) (am_rfL rfX8) (some .int) Post 36 V) (n : Nat) (res : (Int32 × am_M)) (hP : Post (some (.int res.1)) (wX8 res.2)) (kont90 : am_M → Int32 → Int64 → Int32 → Int32 → Int32 → Option (Int32 × am_M)) (hk90 : ∀ (σ : am_M) (l1 : Int32) (l2 : Int64) (l4 : Int32) (l5 : Int32) (l6 : Int32), kont90 σ l1 l2 l4 l5 l6 = some res → V (wX8 σ) 90 [(0, .ref 0), (1, .int l1), (2, .long l2), (4, .int l4), (5, .int l5), (6, .int l6)] []) (kont116 : am_M → Int32 → Int64 → Int32 → Int32 → Int32 → Int32 → Int32 → Option (Int32 × am_M)) (hk116 : ∀ (σ : am_M) (l1 : Int32) (l2 : Int64) (l4 : Int32) (l5 : Int32) (l6 : Int32) (l7 : Int32) (l8 : Int32), kont116 σ l1 l2 l4 l5 l6 l7 l8 = some res → V (wX8 σ) 116 [(0, .ref 0), (1, .int l1), (2, .long l2), (4, .int l4), (5, .int l5), (6, .int l6), (7, .int l7), (8, .int l8)] []) (σ : am_M) (l1 : Int32) (l2 : Int64) (l4 : Int32) (l5 : Int32) (l6 : Int32) (l7 : Int32) (l8 : Int32) (s0 : Int32) (s1 : Int32) (h : X8_run_J131 n kont90 kont116 σ l1 l2 l4 l5 l6 l7 l8 s0 s1 = some res) : V (wX8 σ) 131 [(0, .ref 0), (1, .int l1), (2, .long l2), (4, .int l4), (5, .int l5), (6, .int l6), (7, .int l7), (8, .int l8)] [.int s0, .int s1] := by
  unfold X8_run_J131 at h
  by_cases c1 : s0 ≤ s1
  · rw [if_pos c1] at h
    refine hV.run 1 [1] (ws' := wX8 σ) (pc' := 207) (ls' := [(0, .ref 0), (1, .int l1), (2, .long l2), (4, .int l4), (5, .int l5), (6, .int l6), (7, .int l7), (8, .int l8)]) (st' := []) (ps := [s0 ≤ s1]) rfl ⟨c1, trivial⟩ ?_
    refine hV.pick [0, 1, 2, 3, 4, 5] (ls' := [(0, .ref 0), (1, .int l1), (2, .long l2), (4, .int l4), (5, .int l5), (6, .int l6)]) rfl ?_
    exact p_X8_run_J207 hV n res hP kont90 hk90 σ l1 l2 l4 l5 l6 h
  · rw [if_neg c1] at h
    by_cases c2 : l5 = 0
    · rw [if_pos c2] at h
      refine hV.run 6 [0, 0] (ws' := wX8 σ) (pc' := 144) (ls' := [(0, .ref 0), (1, .int l1), (2, .long l2), (4, .int l4), (5, .int l5), (6, .int l6), (7, .int l7), (8, .int l8)]) (st' := [.int l8, .int l6, .ref 0]) (ps := [¬ s0 ≤ s1, l5 = 0]) rfl ⟨c1, c2, trivial⟩ ?_
      obtain ⟨q3, hq3, h⟩ := am_bind h
      refine hV.cOi (as := [.int l6, .int l8]) (rest := []) (st := [.int l8, .int l6, .ref 0]) (ws2 := wX8 q3.2) (pc2 := 147) kX8_447 (c_X8_can l n σ l6 l8 q3 hq3) rfl rfl rfl rfl rfl rfl rfl rfl rfl ?_
      by_cases c4 : q3.1 = true
      · rw [if_pos c4] at h
        refine hV.run 6 [1] (ws' := wX8 q3.2) (pc' := 161) (ls' := [(5, .int 1), (0, .ref 0), (1, .int l1), (2, .long l2), (4, .int l4), (6, .int l6), (7, .int l7), (8, .int l8)]) (st' := [.int l8, .int l6, .ref 0]) (ps := [¬ (b2i q3.1) = 0]) rfl ⟨(b2i_t c4), trivial⟩ ?_
        obtain ⟨q5, hq5, h⟩ := am_bind h
        refine hV.cOv (as := [.int l6, .int l8]) (rest := []) (st := [.int l8, .int l6, .ref 0]) (ws2 := wX8 q5) (pc2 := 164) kX8_450 (c_X8_move l n q3.2 l6 l8 q5 hq5) rfl rfl rfl rfl rfl rfl rfl rfl rfl ?_
        by_cases c6 : (q5 0 40) = (-1)
        · rw [if_pos c6] at h
          refine hV.run 5 [0] (ws' := wX8 q5) (pc' := 201) (ls' := [(5, .int 1), (0, .ref 0), (1, .int l1), (2, .long l2), (4, .int l4), (6, .int l6), (7, .int l7), (8, .int l8)]) (st' := []) (ps := [(q5 0 40) = (-1)]) rfl ⟨c6, trivial⟩ ?_
          refine hV.pick [1, 2, 3, 4, 0, 5, 6, 7] (ls' := [(0, .ref 0), (1, .int l1), (2, .long l2), (4, .int l4), (5, .int 1), (6, .int l6), (7, .int l7), (8, .int l8)]) rfl ?_
          exact p_X8_run_J201 hV n res hP kont116 hk116 q5 l1 l2 l4 1 l6 l7 l8 h
        · rw [if_neg c6] at h
          by_cases g7 : (q5 0 59) < 0 ∨ 320 ≤ (q5 0 59).toNatClampNeg
          · rw [if_pos g7] at h; cases h
          rw [if_neg g7] at h
          refine hV.run 18 [1] (ws' := wX8 (sC (sC q5 0 (am_u (q5 0) 59 ((q5 0 59) + 1))) 29 (upd (q5 29) (q5 0 59).toNatClampNeg (q5 0 41)))) (pc' := 201) (ls' := [(4, .int (l4 + 1)), (5, .int 1), (0, .ref 0), (1, .int l1), (2, .long l2), (6, .int l6), (7, .int l7), (8, .int l8)]) (st' := []) (ps := [¬ (q5 0 40) = (-1), vp_in (q5 0 59) 320]) rfl ⟨c6, g7, trivial⟩ ?_
          refine hV.pick [2, 3, 4, 0, 1, 5, 6, 7] (ls' := [(0, .ref 0), (1, .int l1), (2, .long l2), (4, .int (l4 + 1)), (5, .int 1), (6, .int l6), (7, .int l7), (8, .int l8)]) rfl ?_
          exact p_X8_run_J201 hV n res hP kont116 hk116 (sC (sC q5 0 (am_u (q5 0) 59 ((q5 0 59) + 1))) 29 (upd (q5 29) (q5 0 59).toNatClampNeg (q5 0 41))) l1 l2 (l4 + 1) 1 l6 l7 l8 h
      · rw [if_neg c4] at h
        refine hV.run 2 [0] (ws' := wX8 q3.2) (pc' := 201) (ls' := [(0, .ref 0), (1, .int l1), (2, .long l2), (4, .int l4), (5, .int l5), (6, .int l6), (7, .int l7), (8, .int l8)]) (st' := []) (ps := [(b2i q3.1) = 0]) rfl ⟨(b2i_f c4), trivial⟩ ?_
        exact p_X8_run_J201 hV n res hP kont116 hk116 q3.2 l1 l2 l4 l5 l6 l7 l8 h
    · rw [if_neg c2] at h
      refine hV.run 3 [0, 1] (ws' := wX8 σ) (pc' := 207) (ls' := [(0, .ref 0), (1, .int l1), (2, .long l2), (4, .int l4), (5, .int l5), (6, .int l6), (7, .int l7), (8, .int l8)]) (st' := []) (ps := [¬ s0 ≤ s1, ¬ l5 = 0]) rfl ⟨c1, c2, trivial⟩ ?_
      refine hV.pick [0, 1, 2, 3, 4, 5] (ls' := [(0, .ref 0), (1, .int l1), (2, .long l2), (4, .int l4), (5, .int l5), (6, .int l6)]) rfl ?_
      exact p_X8_run_J207 hV n res hP kont90 hk90 σ l1 l2 l4 l5 l6 h
def X8_run_B116 (n : Nat) (kont90 : am_M → Int32 → Int64 → Int32 → Int32 → Int32 → Option (Int32 × am_M)) (kont116 : am_M → Int32 → Int64 → Int32 → Int32 → Int32 → Int32 → Int32 → Option (Int32 × am_M)) (σ : am_M) (l1 : Int32) (l2 : Int64) (l4 : Int32) (l5 : Int32) (l6 : Int32) (l7 : Int32) (l8 : Int32) : Option (Int32 × am_M) := if l7 = 0 then (X8_run_J131 n kont90 kont116 σ l1 l2 l4 l5 l6 l7 l8 1 l8) else (X8_run_J131 n kont90 kont116 σ l1 l2 l4 l5 l6 l7 l8 (σ 0 3) l8)
def X8_run_L116 (n : Nat) (kont90 : am_M → Int32 → Int64 → Int32 → Int32 → Int32 → Option (Int32 × am_M)) : Nat → am_M → Int32 → Int64 → Int32 → Int32 → Int32 → Int32 → Int32 → Option (Int32 × am_M)
 | 0 => fun _ _ _ _ _ _ _ _ => none
 | k + 1 => fun σ l1 l2 l4 l5 l6 l7 l8 => X8_run_B116 n kont90 (X8_run_L116 n kont90 k) σ l1 l2 l4 l5 l6 l7 l8
set_option maxRecDepth 100000 in
set_option maxHeartbeats 4000000 in
theorem p_X8_run_B116 {l : Launch} {Post : Option Value → am_W → Prop} {V : am_VT} (hV : am_B l RX8 false 10 (am_cdT' tX8_run) (am_rfL rfX8) (some .int) Post 36 V) (n : Nat) (res : (Int32 × am_M)) (hP : Post (some (.int res.1)) (wX8 res.2)) (kont90 : am_M → Int32 → Int64 → Int32 → Int32 → Int32 → Option (Int32 × am_M)) (hk90 : ∀ (σ : am_M) (l1 : Int32) (l2 : Int64) (l4 : Int32) (l5 : Int32) (l6 : Int32), kont90 σ l1 l2 l4 l5 l6 = some res → V (wX8 σ) 90 [(0, .ref 0), (1, .int l1), (2, .long l2), (4, .int l4), (5, .int l5), (6, .int l6)] []) (kont116 : am_M → Int32 → Int64 → Int32 → Int32 → Int32 → Int32 → Int32 → Option (Int32 × am_M)) (hk116 : ∀ (σ : am_M) (l1 : Int32) (l2 : Int64) (l4 : Int32) (l5 : Int32) (l6 : Int32) (l7 : Int32) (l8 : Int32), kont116 σ l1 l2 l4 l5 l6 l7 l8 = some res → V (wX8 σ) 116 [(0, .ref 0), (1, .int l1), (2, .long l2), (4, .int l4), (5, .int l5), (6, .int l6), (7, .int l7), (8, .int l8)] []) (σ : am_M) (l1 : Int32) (l2 : Int64) (l4 : Int32) (l5 : Int32) (l6 : Int32) (l7 : Int32) (l8 : Int32) (h : X8_run_B116 n kont90 kont116 σ l1 l2 l4 l5 l6 l7 l8 = some res) : V (wX8 σ) 116 [(0, .ref 0), (1, .int l1), (2, .long l2), (4, .int l4), (5, .int l5), (6, .int l6), (7, .int l7), (8, .int l8)] [] := by
  unfold X8_run_B116 at h
  by_cases c1 : l7 = 0
  · rw [if_pos c1] at h
    refine hV.run 4 [1] (ws' := wX8 σ) (pc' := 131) (ls' := [(0, .ref 0), (1, .int l1), (2, .long l2), (4, .int l4), (5, .int l5), (6, .int l6), (7, .int l7), (8, .int l8)]) (st' := [.int 1, .int l8]) (ps := [l7 = 0]) rfl ⟨c1, trivial⟩ ?_
    exact p_X8_run_J131 hV n res hP kont90 hk90 kont116 hk116 σ l1 l2 l4 l5 l6 l7 l8 1 l8 h
  · rw [if_neg c1] at h
    refine hV.run 6 [0] (ws' := wX8 σ) (pc' := 131) (ls' := [(0, .ref 0), (1, .int l1), (2, .long l2), (4, .int l4), (5, .int l5), (6, .int l6), (7, .int l7), (8, .int l8)]) (st' := [.int (σ 0 3), .int l8]) (ps := [¬ l7 = 0]) rfl ⟨c1, trivial⟩ ?_
    exact p_X8_run_J131 hV n res hP kont90 hk90 kont116 hk116 σ l1 l2 l4 l5 l6 l7 l8 (σ 0 3) l8 h
theorem p_X8_run_L116 {l : Launch} {Post : Option Value → am_W → Prop} {V : am_VT} (hV : am_B l RX8 false 10 (am_cdT' tX8_run) (am_rfL rfX8) (some .int) Post 36 V) (n : Nat) (res : (Int32 × am_M)) (hP : Post (some (.int res.1)) (wX8 res.2)) (kont90 : am_M → Int32 → Int64 → Int32 → Int32 → Int32 → Option (Int32 × am_M)) (hk90 : ∀ (σ : am_M) (l1 : Int32) (l2 : Int64) (l4 : Int32) (l5 : Int32) (l6 : Int32), kont90 σ l1 l2 l4 l5 l6 = some res → V (wX8 σ) 90 [(0, .ref 0), (1, .int l1), (2, .long l2), (4, .int l4), (5, .int l5), (6, .int l6)] []) : ∀ (k : Nat) (σ : am_M) (l1 : Int32) (l2 : Int64) (l4 : Int32) (l5 : Int32) (l6 : Int32) (l7 : Int32) (l8 : Int32) (h : X8_run_L116 n kont90 k σ l1 l2 l4 l5 l6 l7 l8 = some res), V (wX8 σ) 116 [(0, .ref 0), (1, .int l1), (2, .long l2), (4, .int l4), (5, .int l5), (6, .int l6), (7, .int l7), (8, .int l8)] [] := by
  intro k
  induction k with
  | zero => intro σ l1 l2 l4 l5 l6 l7 l8 h; cases h
  | succ k ih => intro σ l1 l2 l4 l5 l6 l7 l8 h; exact p_X8_run_B116 hV n res hP kont90 hk90 _ ih σ l1 l2 l4 l5 l6 l7 l8 h
def X8_run_B90 (n : Nat) (kont55 : am_M → Int32 → Int64 → Int32 → Int32 → Option (Int32 × am_M)) (kont90 : am_M → Int32 → Int64 → Int32 → Int32 → Int32 → Option (Int32 × am_M)) (σ : am_M) (l1 : Int32) (l2 : Int64) (l4 : Int32) (l5 : Int32) (l6 : Int32) : Option (Int32 × am_M) := if (σ 0 3) ≤ l6 then (X8_run_J213 n kont55 σ l1 l2 l4 l5) else (if l5 = 0 then (X8_isAt σ l6 4).bind (fun q3 => X8_run_L116 n kont90 n σ l1 l2 l4 l5 l6 (b2i q3) 0) else (X8_run_J213 n kont55 σ l1 l2 l4 l5))
def X8_run_L90 (n : Nat) (kont55 : am_M → Int32 → Int64 → Int32 → Int32 → Option (Int32 × am_M)) : Nat → am_M → Int32 → Int64 → Int32 → Int32 → Int32 → Option (Int32 × am_M)
 | 0 => fun _ _ _ _ _ _ => none
 | k + 1 => fun σ l1 l2 l4 l5 l6 => X8_run_B90 n kont55 (X8_run_L90 n kont55 k) σ l1 l2 l4 l5 l6
set_option maxRecDepth 100000 in
set_option maxHeartbeats 4000000 in
theorem p_X8_run_B90 {l : Launch} {Post : Option Value → am_W → Prop} {V : am_VT} (hV : am_B l RX8 false 10 (am_cdT' tX8_run) (am_rfL rfX8) (some .int) Post 36 V) (n : Nat) (res : (Int32 × am_M)) (hP : Post (some (.int res.1)) (wX8 res.2)) (kont55 : am_M → Int32 → Int64 → Int32 → Int32 → Option (Int32 × am_M)) (hk55 : ∀ (σ : am_M) (l1 : Int32) (l2 : Int64) (l4 : Int32) (l5 : Int32), kont55 σ l1 l2 l4 l5 = some res → V (wX8 σ) 55 [(0, .ref 0), (1, .int l1), (2, .long l2), (4, .int l4), (5, .int l5)] []) (kont90 : am_M → Int32 → Int64 → Int32 → Int32 → Int32 → Option (Int32 × am_M)) (hk90 : ∀ (σ : am_M) (l1 : Int32) (l2 : Int64) (l4 : Int32) (l5 : Int32) (l6 : Int32), kont90 σ l1 l2 l4 l5 l6 = some res → V (wX8 σ) 90 [(0, .ref 0), (1, .int l1), (2, .long l2), (4, .int l4), (5, .int l5), (6, .int l6)] []) (σ : am_M) (l1 : Int32) (l2 : Int64) (l4 : Int32) (l5 : Int32) (l6 : Int32) (h : X8_run_B90 n kont55 kont90 σ l1 l2 l4 l5 l6 = some res) : V (wX8 σ) 90 [(0, .ref 0), (1, .int l1), (2, .long l2), (4, .int l4), (5, .int l5), (6, .int l6)] [] := by
  unfold X8_run_B90 at h
  by_cases c1 : (σ 0 3) ≤ l6
  · rw [if_pos c1] at h
    refine hV.run 4 [1] (ws' := wX8 σ) (pc' := 213) (ls' := [(0, .ref 0), (1, .int l1), (2, .long l2), (4, .int l4), (5, .int l5), (6, .int l6)]) (st' := []) (ps := [(σ 0 3) ≤ l6]) rfl ⟨c1, trivial⟩ ?_
    refine hV.pick [0, 1, 2, 3, 4] (ls' := [(0, .ref 0), (1, .int l1), (2, .long l2), (4, .int l4), (5, .int l5)]) rfl ?_
    exact p_X8_run_J213 hV n res hP kont55 hk55 σ l1 l2 l4 l5 h
  · rw [if_neg c1] at h
    by_cases c2 : l5 = 0
    · rw [if_pos c2] at h
      refine hV.run 9 [0, 0] (ws' := wX8 σ) (pc' := 108) (ls' := [(0, .ref 0), (1, .int l1), (2, .long l2), (4, .int l4), (5, .int l5), (6, .int l6)]) (st' := [.int 4, .int l6, .ref 0]) (ps := [¬ (σ 0 3) ≤ l6, l5 = 0]) rfl ⟨c1, c2, trivial⟩ ?_
      obtain ⟨q3, hq3, h⟩ := am_bind h
      refine hV.cOi (as := [.int l6, .int 4]) (rest := []) (st := [.int 4, .int l6, .ref 0]) (ws2 := wX8 σ) (pc2 := 111) kX8_375 (c_X8_isAt l σ l6 4 q3 hq3) rfl rfl rfl rfl rfl rfl rfl rfl rfl ?_
      refine hV.run 3 [] (ws' := wX8 σ) (pc' := 116) (ls' := [(8, .int 0), (7, .int (b2i q3)), (0, .ref 0), (1, .int l1), (2, .long l2), (4, .int l4), (5, .int l5), (6, .int l6)]) (st' := []) (ps := []) rfl trivial ?_
      refine hV.pick [2, 3, 4, 5, 6, 7, 1, 0] (ls' := [(0, .ref 0), (1, .int l1), (2, .long l2), (4, .int l4), (5, .int l5), (6, .int l6), (7, .int (b2i q3)), (8, .int 0)]) rfl ?_
      exact p_X8_run_L116 hV n res hP kont90 hk90 n σ l1 l2 l4 l5 l6 (b2i q3) 0 h
    · rw [if_neg c2] at h
      refine hV.run 6 [0, 1] (ws' := wX8 σ) (pc' := 213) (ls' := [(0, .ref 0), (1, .int l1), (2, .long l2), (4, .int l4), (5, .int l5), (6, .int l6)]) (st' := []) (ps := [¬ (σ 0 3) ≤ l6, ¬ l5 = 0]) rfl ⟨c1, c2, trivial⟩ ?_
      refine hV.pick [0, 1, 2, 3, 4] (ls' := [(0, .ref 0), (1, .int l1), (2, .long l2), (4, .int l4), (5, .int l5)]) rfl ?_
      exact p_X8_run_J213 hV n res hP kont55 hk55 σ l1 l2 l4 l5 h
theorem p_X8_run_L90 {l : Launch} {Post : Option Value → am_W → Prop} {V : am_VT} (hV : am_B l RX8 false 10 (am_cdT' tX8_run) (am_rfL rfX8) (some .int) Post 36 V) (n : Nat) (res : (Int32 × am_M)) (hP : Post (some (.int res.1)) (wX8 res.2)) (kont55 : am_M → Int32 → Int64 → Int32 → Int32 → Option (Int32 × am_M)) (hk55 : ∀ (σ : am_M) (l1 : Int32) (l2 : Int64) (l4 : Int32) (l5 : Int32), kont55 σ l1 l2 l4 l5 = some res → V (wX8 σ) 55 [(0, .ref 0), (1, .int l1), (2, .long l2), (4, .int l4), (5, .int l5)] []) : ∀ (k : Nat) (σ : am_M) (l1 : Int32) (l2 : Int64) (l4 : Int32) (l5 : Int32) (l6 : Int32) (h : X8_run_L90 n kont55 k σ l1 l2 l4 l5 l6 = some res), V (wX8 σ) 90 [(0, .ref 0), (1, .int l1), (2, .long l2), (4, .int l4), (5, .int l5), (6, .int l6)] [] := by
  intro k
  induction k with
  | zero => intro σ l1 l2 l4 l5 l6 h; cases h
  | succ k ih => intro σ l1 l2 l4 l5 l6 h; exact p_X8_run_B90 hV n res hP kont55 hk55 _ ih σ l1 l2 l4 l5 l6 h
def X8_run_J81 (n : Nat) (kont55 : am_M → Int32 → Int64 → Int32 → Int32 → Option (Int32 × am_M)) (σ : am_M) (l1 : Int32) (l2 : Int64) (l4 : Int32) (s0 : Int32) : Option (Int32 × am_M) := X8_run_L90 n kont55 n (sC σ 0 (am_u (σ 0) 35 s0)) l1 l2 l4 0 0
set_option maxRecDepth 100000 in
set_option maxHeartbeats 4000000 in
theorem p_X8_run_J81 {l : Launch} {Post : Option Value → am_W → Prop} {V : am_VT} (hV : am_B l RX8 false 10 (am_cdT' tX8_run) (am_rfL rfX8) (some .int) Post 36 V) (n : Nat) (res : (Int32 × am_M)) (hP : Post (some (.int res.1)) (wX8 res.2)) (kont55 : am_M → Int32 → Int64 → Int32 → Int32 → Option (Int32 × am_M)) (hk55 : ∀ (σ : am_M) (l1 : Int32) (l2 : Int64) (l4 : Int32) (l5 : Int32), kont55 σ l1 l2 l4 l5 = some res → V (wX8 σ) 55 [(0, .ref 0), (1, .int l1), (2, .long l2), (4, .int l4), (5, .int l5)] []) (σ : am_M) (l1 : Int32) (l2 : Int64) (l4 : Int32) (s0 : Int32) (h : X8_run_J81 n kont55 σ l1 l2 l4 s0 = some res) : V (wX8 σ) 81 [(0, .ref 0), (1, .int l1), (2, .long l2), (4, .int l4)] [.int s0, .ref 0] := by
  unfold X8_run_J81 at h
  refine hV.run 5 [] (ws' := wX8 (sC σ 0 (am_u (σ 0) 35 s0))) (pc' := 90) (ls' := [(6, .int 0), (5, .int 0), (0, .ref 0), (1, .int l1), (2, .long l2), (4, .int l4)]) (st' := []) (ps := []) rfl trivial ?_
  refine hV.pick [2, 3, 4, 5, 1, 0] (ls' := [(0, .ref 0), (1, .int l1), (2, .long l2), (4, .int l4), (5, .int 0), (6, .int 0)]) rfl ?_
  exact p_X8_run_L90 hV n res hP kont55 hk55 n (sC σ 0 (am_u (σ 0) 35 s0)) l1 l2 l4 0 0 h
def X8_run_B55 (n : Nat) (kont55 : am_M → Int32 → Int64 → Int32 → Int32 → Option (Int32 × am_M)) (σ : am_M) (l1 : Int32) (l2 : Int64) (l4 : Int32) (l5 : Int32) : Option (Int32 × am_M) := if l5 = 0 then (X8_kindNow n (sC σ 0 (am_u (σ 0) 35 (-1)))).bind (fun q2 => some (q2, sC σ 0 (am_u (σ 0) 35 (-1)))) else (if l1 ≤ l4 then (X8_run_J81 n kont55 σ l1 l2 l4 (-1)) else (X8_run_J81 n kont55 σ l1 l2 l4 (((am_lshr l2 (4 * l4)).toInt32) &&& 15)))
def X8_run_L55 (n : Nat) : Nat → am_M → Int32 → Int64 → Int32 → Int32 → Option (Int32 × am_M)
 | 0 => fun _ _ _ _ _ => none
 | k + 1 => fun σ l1 l2 l4 l5 => X8_run_B55 n (X8_run_L55 n k) σ l1 l2 l4 l5
set_option maxRecDepth 100000 in
set_option maxHeartbeats 4000000 in
theorem p_X8_run_B55 {l : Launch} {Post : Option Value → am_W → Prop} {V : am_VT} (hV : am_B l RX8 false 10 (am_cdT' tX8_run) (am_rfL rfX8) (some .int) Post 36 V) (n : Nat) (res : (Int32 × am_M)) (hP : Post (some (.int res.1)) (wX8 res.2)) (kont55 : am_M → Int32 → Int64 → Int32 → Int32 → Option (Int32 × am_M)) (hk55 : ∀ (σ : am_M) (l1 : Int32) (l2 : Int64) (l4 : Int32) (l5 : Int32), kont55 σ l1 l2 l4 l5 = some res → V (wX8 σ) 55 [(0, .ref 0), (1, .int l1), (2, .long l2), (4, .int l4), (5, .int l5)] []) (σ : am_M) (l1 : Int32) (l2 : Int64) (l4 : Int32) (l5 : Int32) (h : X8_run_B55 n kont55 σ l1 l2 l4 l5 = some res) : V (wX8 σ) 55 [(0, .ref 0), (1, .int l1), (2, .long l2), (4, .int l4), (5, .int l5)] [] := by
  unfold X8_run_B55 at h
  by_cases c1 : l5 = 0
  · rw [if_pos c1] at h
    refine hV.run 6 [1] (ws' := wX8 (sC σ 0 (am_u (σ 0) 35 (-1)))) (pc' := 222) (ls' := [(0, .ref 0), (1, .int l1), (2, .long l2), (4, .int l4), (5, .int l5)]) (st' := [.ref 0]) (ps := [l5 = 0]) rfl ⟨c1, trivial⟩ ?_
    obtain ⟨q2, hq2, h⟩ := am_bind h
    refine hV.cOi (as := []) (rest := []) (st := [.ref 0]) (ws2 := wX8 (sC σ 0 (am_u (σ 0) 35 (-1)))) (pc2 := 225) kX8_460 (c_X8_kindNow l n (sC σ 0 (am_u (σ 0) 35 (-1))) q2 hq2) rfl rfl rfl rfl rfl rfl rfl rfl rfl ?_
    cases h
    exact hV.ri rfl rfl rfl hP
  · rw [if_neg c1] at h
    by_cases c3 : l1 ≤ l4
    · rw [if_pos c3] at h
      refine hV.run 7 [0, 1] (ws' := wX8 σ) (pc' := 81) (ls' := [(0, .ref 0), (1, .int l1), (2, .long l2), (4, .int l4), (5, .int l5)]) (st' := [.int (-1), .ref 0]) (ps := [¬ l5 = 0, l1 ≤ l4]) rfl ⟨c1, c3, trivial⟩ ?_
      refine hV.pick [0, 1, 2, 3] (ls' := [(0, .ref 0), (1, .int l1), (2, .long l2), (4, .int l4)]) rfl ?_
      exact p_X8_run_J81 hV n res hP kont55 hk55 σ l1 l2 l4 (-1) h
    · rw [if_neg c3] at h
      refine hV.run 15 [0, 0] (ws' := wX8 σ) (pc' := 81) (ls' := [(0, .ref 0), (1, .int l1), (2, .long l2), (4, .int l4), (5, .int l5)]) (st' := [.int (((am_lshr l2 (4 * l4)).toInt32) &&& 15), .ref 0]) (ps := [¬ l5 = 0, ¬ l1 ≤ l4]) rfl ⟨c1, c3, trivial⟩ ?_
      refine hV.pick [0, 1, 2, 3] (ls' := [(0, .ref 0), (1, .int l1), (2, .long l2), (4, .int l4)]) rfl ?_
      exact p_X8_run_J81 hV n res hP kont55 hk55 σ l1 l2 l4 (((am_lshr l2 (4 * l4)).toInt32) &&& 15) h
theorem p_X8_run_L55 {l : Launch} {Post : Option Value → am_W → Prop} {V : am_VT} (hV : am_B l RX8 false 10 (am_cdT' tX8_run) (am_rfL rfX8) (some .int) Post 36 V) (n : Nat) (res : (Int32 × am_M)) (hP : Post (some (.int res.1)) (wX8 res.2)) : ∀ (k : Nat) (σ : am_M) (l1 : Int32) (l2 : Int64) (l4 : Int32) (l5 : Int32) (h : X8_run_L55 n k σ l1 l2 l4 l5 = some res), V (wX8 σ) 55 [(0, .ref 0), (1, .int l1), (2, .long l2), (4, .int l4), (5, .int l5)] [] := by
  intro k
  induction k with
  | zero => intro σ l1 l2 l4 l5 h; cases h
  | succ k ih => intro σ l1 l2 l4 l5 h; exact p_X8_run_B55 hV n res hP _ ih σ l1 l2 l4 l5 h
def X8_run_B3 (n : Nat) (kont3 : am_M → Int32 → Int64 → Int32 → Option (Int32 × am_M)) (σ : am_M) (l1 : Int32) (l2 : Int64) (l4 : Int32) : Option (Int32 × am_M) := if 8 ≤ l4 then (X8_begin n σ).bind (fun q2 => X8_run_L55 n n (sC q2 0 (am_u (q2 0) 59 0)) l1 l2 0 1) else (if l4 < 0 ∨ 8 ≤ l4.toNatClampNeg then none else (if l4 < 0 ∨ 8 ≤ l4.toNatClampNeg then none else (if l4 < 0 ∨ 8 ≤ l4.toNatClampNeg then none else (kont3 (sC (sC (sC σ 17 (upd (σ 17) l4.toNatClampNeg 0)) 18 (upd (σ 18) l4.toNatClampNeg 0)) 19 (upd (σ 19) l4.toNatClampNeg 0)) l1 l2 (l4 + 1)))))
def X8_run_L3 (n : Nat) : Nat → am_M → Int32 → Int64 → Int32 → Option (Int32 × am_M)
 | 0 => fun _ _ _ _ => none
 | k + 1 => fun σ l1 l2 l4 => X8_run_B3 n (X8_run_L3 n k) σ l1 l2 l4
set_option maxRecDepth 100000 in
set_option maxHeartbeats 4000000 in
theorem p_X8_run_B3 {l : Launch} {Post : Option Value → am_W → Prop} {V : am_VT} (hV : am_B l RX8 false 10 (am_cdT' tX8_run) (am_rfL rfX8) (some .int) Post 36 V) (n : Nat) (res : (Int32 × am_M)) (hP : Post (some (.int res.1)) (wX8 res.2)) (kont3 : am_M → Int32 → Int64 → Int32 → Option (Int32 × am_M)) (hk3 : ∀ (σ : am_M) (l1 : Int32) (l2 : Int64) (l4 : Int32), kont3 σ l1 l2 l4 = some res → V (wX8 σ) 3 [(0, .ref 0), (1, .int l1), (2, .long l2), (4, .int l4)] []) (σ : am_M) (l1 : Int32) (l2 : Int64) (l4 : Int32) (h : X8_run_B3 n kont3 σ l1 l2 l4 = some res) : V (wX8 σ) 3 [(0, .ref 0), (1, .int l1), (2, .long l2), (4, .int l4)] [] := by
  unfold X8_run_B3 at h
  by_cases c1 : 8 ≤ l4
  · rw [if_pos c1] at h
    refine hV.run 4 [1] (ws' := wX8 σ) (pc' := 41) (ls' := [(0, .ref 0), (1, .int l1), (2, .long l2), (4, .int l4)]) (st' := [.ref 0]) (ps := [8 ≤ l4]) rfl ⟨c1, trivial⟩ ?_
    obtain ⟨q2, hq2, h⟩ := am_bind h
    refine hV.cOv (as := []) (rest := []) (st := [.ref 0]) (ws2 := wX8 q2) (pc2 := 44) kX8_456 (c_X8_begin l n σ q2 hq2) rfl rfl rfl rfl rfl rfl rfl rfl rfl ?_
    refine hV.run 7 [] (ws' := wX8 (sC q2 0 (am_u (q2 0) 59 0))) (pc' := 55) (ls' := [(5, .int 1), (4, .int 0), (0, .ref 0), (1, .int l1), (2, .long l2)]) (st' := []) (ps := []) rfl trivial ?_
    refine hV.pick [2, 3, 4, 1, 0] (ls' := [(0, .ref 0), (1, .int l1), (2, .long l2), (4, .int 0), (5, .int 1)]) rfl ?_
    exact p_X8_run_L55 hV n res hP n (sC q2 0 (am_u (q2 0) 59 0)) l1 l2 0 1 h
  · rw [if_neg c1] at h
    by_cases g3 : l4 < 0 ∨ 8 ≤ l4.toNatClampNeg
    · rw [if_pos g3] at h; cases h
    rw [if_neg g3] at h
    by_cases g4 : l4 < 0 ∨ 8 ≤ l4.toNatClampNeg
    · rw [if_pos g4] at h; cases h
    rw [if_neg g4] at h
    by_cases g5 : l4 < 0 ∨ 8 ≤ l4.toNatClampNeg
    · rw [if_pos g5] at h; cases h
    rw [if_neg g5] at h
    refine hV.run 20 [0] (ws' := wX8 (sC (sC (sC σ 17 (upd (σ 17) l4.toNatClampNeg 0)) 18 (upd (σ 18) l4.toNatClampNeg 0)) 19 (upd (σ 19) l4.toNatClampNeg 0))) (pc' := 3) (ls' := [(4, .int (l4 + 1)), (0, .ref 0), (1, .int l1), (2, .long l2)]) (st' := []) (ps := [¬ 8 ≤ l4, vp_in l4 8, vp_in l4 8, vp_in l4 8]) rfl ⟨c1, g3, g4, g5, trivial⟩ ?_
    refine hV.pick [1, 2, 3, 0] (ls' := [(0, .ref 0), (1, .int l1), (2, .long l2), (4, .int (l4 + 1))]) rfl ?_
    exact hk3 (sC (sC (sC σ 17 (upd (σ 17) l4.toNatClampNeg 0)) 18 (upd (σ 18) l4.toNatClampNeg 0)) 19 (upd (σ 19) l4.toNatClampNeg 0)) l1 l2 (l4 + 1) h
theorem p_X8_run_L3 {l : Launch} {Post : Option Value → am_W → Prop} {V : am_VT} (hV : am_B l RX8 false 10 (am_cdT' tX8_run) (am_rfL rfX8) (some .int) Post 36 V) (n : Nat) (res : (Int32 × am_M)) (hP : Post (some (.int res.1)) (wX8 res.2)) : ∀ (k : Nat) (σ : am_M) (l1 : Int32) (l2 : Int64) (l4 : Int32) (h : X8_run_L3 n k σ l1 l2 l4 = some res), V (wX8 σ) 3 [(0, .ref 0), (1, .int l1), (2, .long l2), (4, .int l4)] [] := by
  intro k
  induction k with
  | zero => intro σ l1 l2 l4 h; cases h
  | succ k ih => intro σ l1 l2 l4 h; exact p_X8_run_B3 hV n res hP _ ih σ l1 l2 l4 h
def X8_run (n : Nat) (σ : am_M) (a1 : Int32) (a2 : Int64) : Option (Int32 × am_M) := X8_run_L3 n n σ a1 a2 0
set_option maxRecDepth 100000 in
set_option maxHeartbeats 4000000 in
theorem c_X8_run (l : Launch) (n : Nat) (σ : am_M) (a1 : Int32) (a2 : Int64) (res : (Int32 × am_M)) (h : X8_run n σ a1 a2 = some res) : am_Con l yX8_run cX8_run 9 (some .int) 10 [.ref 0, .int a1, .long a2] (wX8 σ) (fun (r : Option Value) (w : am_W) => r = (some (.int res.1)) ∧ w = (wX8 res.2)) := by
  refine am_metn (n0 := 36) (own := RX8) (cd := am_cdT' tX8_run) (rf := am_rfL rfX8) (ini := false) rfl (by decide +kernel) rfl (by decide) dX8_run rfX8_ok (Nat.le_of_ble_eq_true rfl) ?_
  intro V hV
  have hP : (fun (r : Option Value) (w : am_W) => r = (some (.int res.1)) ∧ w = (wX8 res.2)) (some (.int res.1)) (wX8 res.2) := ⟨rfl, rfl⟩
  show V (wX8 σ) 0 [(0, .ref 0), (1, .int a1), (2, .long a2)] []
  unfold X8_run at h
  refine hV.run 2 [] (ws' := wX8 σ) (pc' := 3) (ls' := [(4, .int 0), (0, .ref 0), (1, .int a1), (2, .long a2)]) (st' := []) (ps := []) rfl trivial ?_
  refine hV.pick [1, 2, 3, 0] (ls' := [(0, .ref 0), (1, .int a1), (2, .long a2), (4, .int 0)]) rfl ?_
  exact p_X8_run_L3 hV n res hP n σ a1 a2 0 h

def X8_waitsFor_J133 (n : Nat) (kont98 : am_M → Int32 → Int32 → Int32 → Option (Int32 × am_M)) (σ : am_M) (l1 : Int32) (l4 : Int32) (s0 : Int32) (s1 : Int32) : Option (Int32 × am_M) := kont98 σ l1 (s1 ||| s0) (l4 + 1)
set_option maxRecDepth 100000 in
set_option maxHeartbeats 4000000 in
theorem p_X8_waitsFor_J133 {l : Launch} {Post : Option Value → am_W → Prop} {V : am_VT} (hV : am_B l RX8 false 4 (am_cdT' tX8_waitsFor) (am_rfL rfX8) (some .int) Post 36 V) (n : Nat) (res : (Int32 × am_M)) (hP : Post (some (.int res.1)) (wX8 res.2)) (kont98 : am_M → Int32 → Int32 → Int32 → Option (Int32 × am_M)) (hk98 : ∀ (σ : am_M) (l1 : Int32) (l3 : Int32) (l4 : Int32), kont98 σ l1 l3 l4 = some res → V (wX8 σ) 98 [(0, .ref 0), (1, .int l1), (3, .int l3), (4, .int l4)] []) (σ : am_M) (l1 : Int32) (l4 : Int32) (s0 : Int32) (s1 : Int32) (h : X8_waitsFor_J133 n kont98 σ l1 l4 s0 s1 = some res) : V (wX8 σ) 133 [(0, .ref 0), (1, .int l1), (4, .int l4)] [.int s0, .int s1] := by
  unfold X8_waitsFor_J133 at h
  refine hV.run 4 [] (ws' := wX8 σ) (pc' := 98) (ls' := [(4, .int (l4 + 1)), (3, .int (s1 ||| s0)), (0, .ref 0), (1, .int l1)]) (st' := []) (ps := []) rfl trivial ?_
  refine hV.pick [2, 3, 1, 0] (ls' := [(0, .ref 0), (1, .int l1), (3, .int (s1 ||| s0)), (4, .int (l4 + 1))]) rfl ?_
  exact hk98 σ l1 (s1 ||| s0) (l4 + 1) h
def X8_waitsFor_J132 (n : Nat) (kont98 : am_M → Int32 → Int32 → Int32 → Option (Int32 × am_M)) (σ : am_M) (l1 : Int32) (l4 : Int32) (s0 : Int32) : Option (Int32 × am_M) := X8_waitsFor_J133 n kont98 σ l1 l4 0 s0
set_option maxRecDepth 100000 in
set_option maxHeartbeats 4000000 in
theorem p_X8_waitsFor_J132 {l : Launch} {Post : Option Value → am_W → Prop} {V : am_VT} (hV : am_B l RX8 false 4 (am_cdT' tX8_waitsFor) (am_rfL rfX8) (some .int) Post 36 V) (n : Nat) (res : (Int32 × am_M)) (hP : Post (some (.int res.1)) (wX8 res.2)) (kont98 : am_M → Int32 → Int32 → Int32 → Option (Int32 × am_M)) (hk98 : ∀ (σ : am_M) (l1 : Int32) (l3 : Int32) (l4 : Int32), kont98 σ l1 l3 l4 = some res → V (wX8 σ) 98 [(0, .ref 0), (1, .int l1), (3, .int l3), (4, .int l4)] []) (σ : am_M) (l1 : Int32) (l4 : Int32) (s0 : Int32) (h : X8_waitsFor_J132 n kont98 σ l1 l4 s0 = some res) : V (wX8 σ) 132 [(0, .ref 0), (1, .int l1), (4, .int l4)] [.int s0] := by
  unfold X8_waitsFor_J132 at h
  refine hV.run 1 [] (ws' := wX8 σ) (pc' := 133) (ls' := [(0, .ref 0), (1, .int l1), (4, .int l4)]) (st' := [.int 0, .int s0]) (ps := []) rfl trivial ?_
  exact p_X8_waitsFor_J133 hV n res hP kont98 hk98 σ l1 l4 0 s0 h
def X8_waitsFor_B98 (n : Nat) (kont98 : am_M → Int32 → Int32 → Int32 → Option (Int32 × am_M)) (σ : am_M) (l1 : Int32) (l3 : Int32) (l4 : Int32) : Option (Int32 × am_M) := if (σ 0 3) ≤ l4 then (some (l3, σ)) else (if l4 = l1 then (X8_waitsFor_J132 n kont98 σ l1 l4 l3) else (X8_own σ l4 0).bind (fun q3 => if q3 = (-1) then (X8_waitsFor_J132 n kont98 σ l1 l4 l3) else (X8_waitsFor_J133 n kont98 σ l1 l4 (1 <<< (l4 &&& 31)) l3)))
def X8_waitsFor_L98 (n : Nat) : Nat → am_M → Int32 → Int32 → Int32 → Option (Int32 × am_M)
 | 0 => fun _ _ _ _ => none
 | k + 1 => fun σ l1 l3 l4 => X8_waitsFor_B98 n (X8_waitsFor_L98 n k) σ l1 l3 l4
set_option maxRecDepth 100000 in
set_option maxHeartbeats 4000000 in
theorem p_X8_waitsFor_B98 {l : Launch} {Post : Option Value → am_W → Prop} {V : am_VT} (hV : am_B l RX8 false 4 (am_cdT' tX8_waitsFor) (am_rfL rfX8) (some .int) Post 36 V) (n : Nat) (res : (Int32 × am_M)) (hP : Post (some (.int res.1)) (wX8 res.2)) (kont98 : am_M → Int32 → Int32 → Int32 → Option (Int32 × am_M)) (hk98 : ∀ (σ : am_M) (l1 : Int32) (l3 : Int32) (l4 : Int32), kont98 σ l1 l3 l4 = some res → V (wX8 σ) 98 [(0, .ref 0), (1, .int l1), (3, .int l3), (4, .int l4)] []) (σ : am_M) (l1 : Int32) (l3 : Int32) (l4 : Int32) (h : X8_waitsFor_B98 n kont98 σ l1 l3 l4 = some res) : V (wX8 σ) 98 [(0, .ref 0), (1, .int l1), (3, .int l3), (4, .int l4)] [] := by
  unfold X8_waitsFor_B98 at h
  by_cases c1 : (σ 0 3) ≤ l4
  · rw [if_pos c1] at h
    refine hV.run 5 [1] (ws' := wX8 σ) (pc' := 142) (ls' := [(0, .ref 0), (1, .int l1), (3, .int l3), (4, .int l4)]) (st' := [.int l3]) (ps := [(σ 0 3) ≤ l4]) rfl ⟨c1, trivial⟩ ?_
    cases h
    exact hV.ri rfl rfl rfl hP
  · rw [if_neg c1] at h
    by_cases c2 : l4 = l1
    · rw [if_pos c2] at h
      refine hV.run 8 [0, 1] (ws' := wX8 σ) (pc' := 132) (ls' := [(0, .ref 0), (1, .int l1), (3, .int l3), (4, .int l4)]) (st' := [.int l3]) (ps := [¬ (σ 0 3) ≤ l4, l4 = l1]) rfl ⟨c1, c2, trivial⟩ ?_
      refine hV.pick [0, 1, 3] (ls' := [(0, .ref 0), (1, .int l1), (4, .int l4)]) rfl ?_
      exact p_X8_waitsFor_J132 hV n res hP kont98 hk98 σ l1 l4 l3 h
    · rw [if_neg c2] at h
      refine hV.run 11 [0, 0] (ws' := wX8 σ) (pc' := 118) (ls' := [(0, .ref 0), (1, .int l1), (3, .int l3), (4, .int l4)]) (st' := [.int 0, .int l4, .ref 0, .int l3]) (ps := [¬ (σ 0 3) ≤ l4, ¬ l4 = l1]) rfl ⟨c1, c2, trivial⟩ ?_
      obtain ⟨q3, hq3, h⟩ := am_bind h
      refine hV.cOi (as := [.int l4, .int 0]) (rest := [.int l3]) (st := [.int 0, .int l4, .ref 0, .int l3]) (ws2 := wX8 σ) (pc2 := 121) kX8_337 (c_X8_own l σ l4 0 q3 hq3) rfl rfl rfl rfl rfl rfl rfl rfl rfl ?_
      by_cases c4 : q3 = (-1)
      · rw [if_pos c4] at h
        refine hV.run 2 [1] (ws' := wX8 σ) (pc' := 132) (ls' := [(0, .ref 0), (1, .int l1), (3, .int l3), (4, .int l4)]) (st' := [.int l3]) (ps := [q3 = (-1)]) rfl ⟨c4, trivial⟩ ?_
        refine hV.pick [0, 1, 3] (ls' := [(0, .ref 0), (1, .int l1), (4, .int l4)]) rfl ?_
        exact p_X8_waitsFor_J132 hV n res hP kont98 hk98 σ l1 l4 l3 h
      · rw [if_neg c4] at h
        refine hV.run 6 [0] (ws' := wX8 σ) (pc' := 133) (ls' := [(0, .ref 0), (1, .int l1), (3, .int l3), (4, .int l4)]) (st' := [.int (1 <<< (l4 &&& 31)), .int l3]) (ps := [¬ q3 = (-1)]) rfl ⟨c4, trivial⟩ ?_
        refine hV.pick [0, 1, 3] (ls' := [(0, .ref 0), (1, .int l1), (4, .int l4)]) rfl ?_
        exact p_X8_waitsFor_J133 hV n res hP kont98 hk98 σ l1 l4 (1 <<< (l4 &&& 31)) l3 h
theorem p_X8_waitsFor_L98 {l : Launch} {Post : Option Value → am_W → Prop} {V : am_VT} (hV : am_B l RX8 false 4 (am_cdT' tX8_waitsFor) (am_rfL rfX8) (some .int) Post 36 V) (n : Nat) (res : (Int32 × am_M)) (hP : Post (some (.int res.1)) (wX8 res.2)) : ∀ (k : Nat) (σ : am_M) (l1 : Int32) (l3 : Int32) (l4 : Int32) (h : X8_waitsFor_L98 n k σ l1 l3 l4 = some res), V (wX8 σ) 98 [(0, .ref 0), (1, .int l1), (3, .int l3), (4, .int l4)] [] := by
  intro k
  induction k with
  | zero => intro σ l1 l3 l4 h; cases h
  | succ k ih => intro σ l1 l3 l4 h; exact p_X8_waitsFor_B98 hV n res hP _ ih σ l1 l3 l4 h
def X8_waitsFor_J179 (n : Nat) (kont146 : am_M → Int32 → Int32 → Int32 → Option (Int32 × am_M)) (σ : am_M) (l2 : Int32) (l4 : Int32) (s0 : Int32) (s1 : Int32) : Option (Int32 × am_M) := kont146 σ l2 (s1 ||| s0) (l4 + 1)
set_option maxRecDepth 100000 in
set_option maxHeartbeats 4000000 in
theorem p_X8_waitsFor_J179 {l : Launch} {Post : Option Value → am_W → Prop} {V : am_VT} (hV : am_B l RX8 false 4 (am_cdT' tX8_waitsFor) (am_rfL rfX8) (some .int) Post 36 V) (n : Nat) (res : (Int32 × am_M)) (hP : Post (some (.int res.1)) (wX8 res.2)) (kont146 : am_M → Int32 → Int32 → Int32 → Option (Int32 × am_M)) (hk146 : ∀ (σ : am_M) (l2 : Int32) (l3 : Int32) (l4 : Int32), kont146 σ l2 l3 l4 = some res → V (wX8 σ) 146 [(0, .ref 0), (2, .int l2), (3, .int l3), (4, .int l4)] []) (σ : am_M) (l2 : Int32) (l4 : Int32) (s0 : Int32) (s1 : Int32) (h : X8_waitsFor_J179 n kont146 σ l2 l4 s0 s1 = some res) : V (wX8 σ) 179 [(0, .ref 0), (2, .int l2), (4, .int l4)] [.int s0, .int s1] := by
  unfold X8_waitsFor_J179 at h
  refine hV.run 4 [] (ws' := wX8 σ) (pc' := 146) (ls' := [(4, .int (l4 + 1)), (3, .int (s1 ||| s0)), (0, .ref 0), (2, .int l2)]) (st' := []) (ps := []) rfl trivial ?_
  refine hV.pick [2, 3, 1, 0] (ls' := [(0, .ref 0), (2, .int l2), (3, .int (s1 ||| s0)), (4, .int (l4 + 1))]) rfl ?_
  exact hk146 σ l2 (s1 ||| s0) (l4 + 1) h
def X8_waitsFor_B146 (n : Nat) (kont146 : am_M → Int32 → Int32 → Int32 → Option (Int32 × am_M)) (σ : am_M) (l2 : Int32) (l3 : Int32) (l4 : Int32) : Option (Int32 × am_M) := if (σ 0 3) ≤ l4 then (some (l3, σ)) else (if l2 < 0 ∨ 80 ≤ l2.toNatClampNeg then none else (X8_isAt σ l4 (σ 6 l2.toNatClampNeg)).bind (fun q3 => if q3 = true then (X8_waitsFor_J179 n kont146 σ l2 l4 0 l3) else (X8_waitsFor_J179 n kont146 σ l2 l4 (1 <<< (l4 &&& 31)) l3)))
def X8_waitsFor_L146 (n : Nat) : Nat → am_M → Int32 → Int32 → Int32 → Option (Int32 × am_M)
 | 0 => fun _ _ _ _ => none
 | k + 1 => fun σ l2 l3 l4 => X8_waitsFor_B146 n (X8_waitsFor_L146 n k) σ l2 l3 l4
set_option maxRecDepth 100000 in
set_option maxHeartbeats 4000000 in
theorem p_X8_waitsFor_B146 {l : Launch} {Post : Option Value → am_W → Prop} {V : am_VT} (hV : am_B l RX8 false 4 (am_cdT' tX8_waitsFor) (am_rfL rfX8) (some .int) Post 36 V) (n : Nat) (res : (Int32 × am_M)) (hP : Post (some (.int res.1)) (wX8 res.2)) (kont146 : am_M → Int32 → Int32 → Int32 → Option (Int32 × am_M)) (hk146 : ∀ (σ : am_M) (l2 : Int32) (l3 : Int32) (l4 : Int32), kont146 σ l2 l3 l4 = some res → V (wX8 σ) 146 [(0, .ref 0), (2, .int l2), (3, .int l3), (4, .int l4)] []) (σ : am_M) (l2 : Int32) (l3 : Int32) (l4 : Int32) (h : X8_waitsFor_B146 n kont146 σ l2 l3 l4 = some res) : V (wX8 σ) 146 [(0, .ref 0), (2, .int l2), (3, .int l3), (4, .int l4)] [] := by
  unfold X8_waitsFor_B146 at h
  by_cases c1 : (σ 0 3) ≤ l4
  · rw [if_pos c1] at h
    refine hV.run 5 [1] (ws' := wX8 σ) (pc' := 188) (ls' := [(0, .ref 0), (2, .int l2), (3, .int l3), (4, .int l4)]) (st' := [.int l3]) (ps := [(σ 0 3) ≤ l4]) rfl ⟨c1, trivial⟩ ?_
    cases h
    exact hV.ri rfl rfl rfl hP
  · rw [if_neg c1] at h
    by_cases g2 : l2 < 0 ∨ 80 ≤ l2.toNatClampNeg
    · rw [if_pos g2] at h; cases h
    rw [if_neg g2] at h
    refine hV.run 11 [0] (ws' := wX8 σ) (pc' := 165) (ls' := [(0, .ref 0), (2, .int l2), (3, .int l3), (4, .int l4)]) (st' := [.int (σ 6 l2.toNatClampNeg), .int l4, .ref 0, .int l3]) (ps := [¬ (σ 0 3) ≤ l4, vp_in l2 80]) rfl ⟨c1, g2, trivial⟩ ?_
    obtain ⟨q3, hq3, h⟩ := am_bind h
    refine hV.cOi (as := [.int l4, .int (σ 6 l2.toNatClampNeg)]) (rest := [.int l3]) (st := [.int (σ 6 l2.toNatClampNeg), .int l4, .ref 0, .int l3]) (ws2 := wX8 σ) (pc2 := 168) kX8_375 (c_X8_isAt l σ l4 (σ 6 l2.toNatClampNeg) q3 hq3) rfl rfl rfl rfl rfl rfl rfl rfl rfl ?_
    by_cases c4 : q3 = true
    · rw [if_pos c4] at h
      refine hV.run 2 [1] (ws' := wX8 σ) (pc' := 179) (ls' := [(0, .ref 0), (2, .int l2), (3, .int l3), (4, .int l4)]) (st' := [.int 0, .int l3]) (ps := [¬ (b2i q3) = 0]) rfl ⟨(b2i_t c4), trivial⟩ ?_
      refine hV.pick [0, 1, 3] (ls' := [(0, .ref 0), (2, .int l2), (4, .int l4)]) rfl ?_
      exact p_X8_waitsFor_J179 hV n res hP kont146 hk146 σ l2 l4 0 l3 h
    · rw [if_neg c4] at h
      refine hV.run 5 [0] (ws' := wX8 σ) (pc' := 179) (ls' := [(0, .ref 0), (2, .int l2), (3, .int l3), (4, .int l4)]) (st' := [.int (1 <<< (l4 &&& 31)), .int l3]) (ps := [(b2i q3) = 0]) rfl ⟨(b2i_f c4), trivial⟩ ?_
      refine hV.pick [0, 1, 3] (ls' := [(0, .ref 0), (2, .int l2), (4, .int l4)]) rfl ?_
      exact p_X8_waitsFor_J179 hV n res hP kont146 hk146 σ l2 l4 (1 <<< (l4 &&& 31)) l3 h
theorem p_X8_waitsFor_L146 {l : Launch} {Post : Option Value → am_W → Prop} {V : am_VT} (hV : am_B l RX8 false 4 (am_cdT' tX8_waitsFor) (am_rfL rfX8) (some .int) Post 36 V) (n : Nat) (res : (Int32 × am_M)) (hP : Post (some (.int res.1)) (wX8 res.2)) : ∀ (k : Nat) (σ : am_M) (l2 : Int32) (l3 : Int32) (l4 : Int32) (h : X8_waitsFor_L146 n k σ l2 l3 l4 = some res), V (wX8 σ) 146 [(0, .ref 0), (2, .int l2), (3, .int l3), (4, .int l4)] [] := by
  intro k
  induction k with
  | zero => intro σ l2 l3 l4 h; cases h
  | succ k ih => intro σ l2 l3 l4 h; exact p_X8_waitsFor_B146 hV n res hP _ ih σ l2 l3 l4 h
def X8_waitsFor (n : Nat) (σ : am_M) (a1 : Int32) : Option (Int32 × am_M) := (X8_own σ a1 0).bind (fun q1 => if q1 = (-1) then (some (0, σ)) else (X8_own σ a1 1).bind (fun q3 => if q3 = 1 then (some (0, σ)) else (if q1 < 0 ∨ 80 ≤ q1.toNatClampNeg then none else (if (σ 6 q1.toNatClampNeg) = 0 then (X8_asked n σ a1 0).bind (fun q7 => some ((1 <<< (q7.1 &&& 31)), q7.2)) else (if (σ 6 q1.toNatClampNeg) = 1 then (X8_asked n σ a1 0).bind (fun q9 => some ((1 <<< (q9.1 &&& 31)), q9.2)) else (if (σ 6 q1.toNatClampNeg) = 2 then (some (0, σ)) else (if (σ 6 q1.toNatClampNeg) = 3 then (X8_asked n σ a1 0).bind (fun q12 => some ((1 <<< (q12.1 &&& 31)), q12.2)) else (if (σ 6 q1.toNatClampNeg) = 4 then (X8_waitsFor_L98 n n σ a1 0 0) else (if (σ 6 q1.toNatClampNeg) = 5 then (X8_begun n σ a1).bind (fun q15 => some (q15, σ)) else (if (σ 6 q1.toNatClampNeg) = 6 then (X8_waitsFor_L146 n n σ q1 0 0) else (if (σ 6 q1.toNatClampNeg) = 7 then (X8_waitsFor_L146 n n σ q1 0 0) else (some (0, σ)))))))))))))
set_option maxRecDepth 100000 in
set_option maxHeartbeats 4000000 in
theorem c_X8_waitsFor (l : Launch) (n : Nat) (σ : am_M) (a1 : Int32) (res : (Int32 × am_M)) (h : X8_waitsFor n σ a1 = some res) : am_Con l yX8_waitsFor cX8_waitsFor 5 (some .int) 4 [.ref 0, .int a1] (wX8 σ) (fun (r : Option Value) (w : am_W) => r = (some (.int res.1)) ∧ w = (wX8 res.2)) := by
  refine am_metn (n0 := 36) (own := RX8) (cd := am_cdT' tX8_waitsFor) (rf := am_rfL rfX8) (ini := false) rfl (by decide +kernel) rfl (by decide) dX8_waitsFor rfX8_ok (Nat.le_of_ble_eq_true rfl) ?_
  intro V hV
  have hP : (fun (r : Option Value) (w : am_W) => r = (some (.int res.1)) ∧ w = (wX8 res.2)) (some (.int res.1)) (wX8 res.2) := ⟨rfl, rfl⟩
  show V (wX8 σ) 0 [(0, .ref 0), (1, .int a1)] []
  unfold X8_waitsFor at h
  refine hV.run 3 [] (ws' := wX8 σ) (pc' := 3) (ls' := [(0, .ref 0), (1, .int a1)]) (st' := [.int 0, .int a1, .ref 0]) (ps := []) rfl trivial ?_
  obtain ⟨q1, hq1, h⟩ := am_bind h
  refine hV.cOi (as := [.int a1, .int 0]) (rest := []) (st := [.int 0, .int a1, .ref 0]) (ws2 := wX8 σ) (pc2 := 6) kX8_337 (c_X8_own l σ a1 0 q1 hq1) rfl rfl rfl rfl rfl rfl rfl rfl rfl ?_
  by_cases c2 : q1 = (-1)
  · rw [if_pos c2] at h
    refine hV.run 5 [1] (ws' := wX8 σ) (pc' := 23) (ls' := [(2, .int q1), (0, .ref 0), (1, .int a1)]) (st' := [.int 0]) (ps := [q1 = (-1)]) rfl ⟨c2, trivial⟩ ?_
    cases h
    exact hV.ri rfl rfl rfl hP
  · rw [if_neg c2] at h
    refine hV.run 7 [0] (ws' := wX8 σ) (pc' := 15) (ls' := [(2, .int q1), (0, .ref 0), (1, .int a1)]) (st' := [.int 1, .int a1, .ref 0]) (ps := [¬ q1 = (-1)]) rfl ⟨c2, trivial⟩ ?_
    obtain ⟨q3, hq3, h⟩ := am_bind h
    refine hV.cOi (as := [.int a1, .int 1]) (rest := []) (st := [.int 1, .int a1, .ref 0]) (ws2 := wX8 σ) (pc2 := 18) kX8_337 (c_X8_own l σ a1 1 q3 hq3) rfl rfl rfl rfl rfl rfl rfl rfl rfl ?_
    by_cases c4 : q3 = 1
    · rw [if_pos c4] at h
      refine hV.run 3 [0] (ws' := wX8 σ) (pc' := 23) (ls' := [(2, .int q1), (0, .ref 0), (1, .int a1)]) (st' := [.int 0]) (ps := [q3 = 1]) rfl ⟨c4, trivial⟩ ?_
      cases h
      exact hV.ri rfl rfl rfl hP
    · rw [if_neg c4] at h
      by_cases g5 : q1 < 0 ∨ 80 ≤ q1.toNatClampNeg
      · rw [if_pos g5] at h; cases h
      rw [if_neg g5] at h
      by_cases c6 : (σ 6 q1.toNatClampNeg) = 0
      · rw [if_pos c6] at h
        refine hV.run 13 [1, 1] (ws' := wX8 σ) (pc' := 84) (ls' := [(3, .int 0), (2, .int q1), (0, .ref 0), (1, .int a1)]) (st' := [.int 0, .int a1, .ref 0, .int 1]) (ps := [¬ q3 = 1, vp_in q1 80, (σ 6 q1.toNatClampNeg).toInt = 0 + ((0 : Nat) : Int), 0 < 8, ¬ 7 < (σ 6 q1.toNatClampNeg).toInt]) rfl ⟨c4, g5, (by rw [c6]; decide), (by decide), (by rw [c6]; decide), trivial⟩ ?_
        obtain ⟨q7, hq7, h⟩ := am_bind h
        refine hV.cOi (as := [.int a1, .int 0]) (rest := [.int 1]) (st := [.int 0, .int a1, .ref 0, .int 1]) (ws2 := wX8 q7.2) (pc2 := 87) kX8_347 (c_X8_asked l n σ a1 0 q7 hq7) rfl rfl rfl rfl rfl rfl rfl rfl rfl ?_
        refine hV.run 1 [] (ws' := wX8 q7.2) (pc' := 88) (ls' := [(3, .int 0), (2, .int q1), (0, .ref 0), (1, .int a1)]) (st' := [.int (1 <<< (q7.1 &&& 31))]) (ps := []) rfl trivial ?_
        cases h
        exact hV.ri rfl rfl rfl hP
      · rw [if_neg c6] at h
        by_cases c8 : (σ 6 q1.toNatClampNeg) = 1
        · rw [if_pos c8] at h
          refine hV.run 13 [1, 2] (ws' := wX8 σ) (pc' := 84) (ls' := [(3, .int 0), (2, .int q1), (0, .ref 0), (1, .int a1)]) (st' := [.int 0, .int a1, .ref 0, .int 1]) (ps := [¬ q3 = 1, vp_in q1 80, (σ 6 q1.toNatClampNeg).toInt = 0 + ((1 : Nat) : Int), 1 < 8, ¬ 7 < (σ 6 q1.toNatClampNeg).toInt]) rfl ⟨c4, g5, (by rw [c8]; decide), (by decide), (by rw [c8]; decide), trivial⟩ ?_
          obtain ⟨q9, hq9, h⟩ := am_bind h
          refine hV.cOi (as := [.int a1, .int 0]) (rest := [.int 1]) (st := [.int 0, .int a1, .ref 0, .int 1]) (ws2 := wX8 q9.2) (pc2 := 87) kX8_347 (c_X8_asked l n σ a1 0 q9 hq9) rfl rfl rfl rfl rfl rfl rfl rfl rfl ?_
          refine hV.run 1 [] (ws' := wX8 q9.2) (pc' := 88) (ls' := [(3, .int 0), (2, .int q1), (0, .ref 0), (1, .int a1)]) (st' := [.int (1 <<< (q9.1 &&& 31))]) (ps := []) rfl trivial ?_
          cases h
          exact hV.ri rfl rfl rfl hP
        · rw [if_neg c8] at h
          by_cases c10 : (σ 6 q1.toNatClampNeg) = 2
          · rw [if_pos c10] at h
            refine hV.run 10 [1, 3] (ws' := wX8 σ) (pc' := 190) (ls' := [(3, .int 0), (2, .int q1), (0, .ref 0), (1, .int a1)]) (st' := [.int 0]) (ps := [¬ q3 = 1, vp_in q1 80, (σ 6 q1.toNatClampNeg).toInt = 0 + ((2 : Nat) : Int), 2 < 8, ¬ 7 < (σ 6 q1.toNatClampNeg).toInt]) rfl ⟨c4, g5, (by rw [c10]; decide), (by decide), (by rw [c10]; decide), trivial⟩ ?_
            cases h
            exact hV.ri rfl rfl rfl hP
          · rw [if_neg c10] at h
            by_cases c11 : (σ 6 q1.toNatClampNeg) = 3
            · rw [if_pos c11] at h
              refine hV.run 13 [1, 4] (ws' := wX8 σ) (pc' := 84) (ls' := [(3, .int 0), (2, .int q1), (0, .ref 0), (1, .int a1)]) (st' := [.int 0, .int a1, .ref 0, .int 1]) (ps := [¬ q3 = 1, vp_in q1 80, (σ 6 q1.toNatClampNeg).toInt = 0 + ((3 : Nat) : Int), 3 < 8, ¬ 7 < (σ 6 q1.toNatClampNeg).toInt]) rfl ⟨c4, g5, (by rw [c11]; decide), (by decide), (by rw [c11]; decide), trivial⟩ ?_
              obtain ⟨q12, hq12, h⟩ := am_bind h
              refine hV.cOi (as := [.int a1, .int 0]) (rest := [.int 1]) (st := [.int 0, .int a1, .ref 0, .int 1]) (ws2 := wX8 q12.2) (pc2 := 87) kX8_347 (c_X8_asked l n σ a1 0 q12 hq12) rfl rfl rfl rfl rfl rfl rfl rfl rfl ?_
              refine hV.run 1 [] (ws' := wX8 q12.2) (pc' := 88) (ls' := [(3, .int 0), (2, .int q1), (0, .ref 0), (1, .int a1)]) (st' := [.int (1 <<< (q12.1 &&& 31))]) (ps := []) rfl trivial ?_
              cases h
              exact hV.ri rfl rfl rfl hP
            · rw [if_neg c11] at h
              by_cases c13 : (σ 6 q1.toNatClampNeg) = 4
              · rw [if_pos c13] at h
                refine hV.run 11 [1, 5] (ws' := wX8 σ) (pc' := 98) (ls' := [(4, .int 0), (3, .int 0), (2, .int q1), (0, .ref 0), (1, .int a1)]) (st' := []) (ps := [¬ q3 = 1, vp_in q1 80, (σ 6 q1.toNatClampNeg).toInt = 0 + ((4 : Nat) : Int), 4 < 8, ¬ 7 < (σ 6 q1.toNatClampNeg).toInt]) rfl ⟨c4, g5, (by rw [c13]; decide), (by decide), (by rw [c13]; decide), trivial⟩ ?_
                refine hV.pick [3, 4, 1, 0] (ls' := [(0, .ref 0), (1, .int a1), (3, .int 0), (4, .int 0)]) rfl ?_
                exact p_X8_waitsFor_L98 hV n res hP n σ a1 0 0 h
              · rw [if_neg c13] at h
                by_cases c14 : (σ 6 q1.toNatClampNeg) = 5
                · rw [if_pos c14] at h
                  refine hV.run 11 [1, 6] (ws' := wX8 σ) (pc' := 91) (ls' := [(3, .int 0), (2, .int q1), (0, .ref 0), (1, .int a1)]) (st' := [.int a1, .ref 0]) (ps := [¬ q3 = 1, vp_in q1 80, (σ 6 q1.toNatClampNeg).toInt = 0 + ((5 : Nat) : Int), 5 < 8, ¬ 7 < (σ 6 q1.toNatClampNeg).toInt]) rfl ⟨c4, g5, (by rw [c14]; decide), (by decide), (by rw [c14]; decide), trivial⟩ ?_
                  obtain ⟨q15, hq15, h⟩ := am_bind h
                  refine hV.cOi (as := [.int a1]) (rest := []) (st := [.int a1, .ref 0]) (ws2 := wX8 σ) (pc2 := 94) kX8_387 (c_X8_begun l n σ a1 q15 hq15) rfl rfl rfl rfl rfl rfl rfl rfl rfl ?_
                  cases h
                  exact hV.ri rfl rfl rfl hP
                · rw [if_neg c14] at h
                  by_cases c16 : (σ 6 q1.toNatClampNeg) = 6
                  · rw [if_pos c16] at h
                    refine hV.run 11 [1, 7] (ws' := wX8 σ) (pc' := 146) (ls' := [(4, .int 0), (3, .int 0), (2, .int q1), (0, .ref 0), (1, .int a1)]) (st' := []) (ps := [¬ q3 = 1, vp_in q1 80, (σ 6 q1.toNatClampNeg).toInt = 0 + ((6 : Nat) : Int), 6 < 8, ¬ 7 < (σ 6 q1.toNatClampNeg).toInt]) rfl ⟨c4, g5, (by rw [c16]; decide), (by decide), (by rw [c16]; decide), trivial⟩ ?_
                    refine hV.pick [3, 2, 1, 0] (ls' := [(0, .ref 0), (2, .int q1), (3, .int 0), (4, .int 0)]) rfl ?_
                    exact p_X8_waitsFor_L146 hV n res hP n σ q1 0 0 h
                  · rw [if_neg c16] at h
                    by_cases c17 : (σ 6 q1.toNatClampNeg) = 7
                    · rw [if_pos c17] at h
                      refine hV.run 11 [1, 8] (ws' := wX8 σ) (pc' := 146) (ls' := [(4, .int 0), (3, .int 0), (2, .int q1), (0, .ref 0), (1, .int a1)]) (st' := []) (ps := [¬ q3 = 1, vp_in q1 80, (σ 6 q1.toNatClampNeg).toInt = 0 + ((7 : Nat) : Int), 7 < 8, ¬ 7 < (σ 6 q1.toNatClampNeg).toInt]) rfl ⟨c4, g5, (by rw [c17]; decide), (by decide), (by rw [c17]; decide), trivial⟩ ?_
                      refine hV.pick [3, 2, 1, 0] (ls' := [(0, .ref 0), (2, .int q1), (3, .int 0), (4, .int 0)]) rfl ?_
                      exact p_X8_waitsFor_L146 hV n res hP n σ q1 0 0 h
                    · rw [if_neg c17] at h
                      refine hV.run 10 [1, 0] (ws' := wX8 σ) (pc' := 190) (ls' := [(3, .int 0), (2, .int q1), (0, .ref 0), (1, .int a1)]) (st' := [.int 0]) (ps := [¬ q3 = 1, vp_in q1 80, (σ 6 q1.toNatClampNeg).toInt < 0 ∨ 7 < (σ 6 q1.toNatClampNeg).toInt]) rfl ⟨c4, g5, (by have c6_ := am_ne c6 (by decide : (0 : Int32).toInt = 0); have c8_ := am_ne c8 (by decide : (1 : Int32).toInt = 1); have c10_ := am_ne c10 (by decide : (2 : Int32).toInt = 2); have c11_ := am_ne c11 (by decide : (3 : Int32).toInt = 3); have c13_ := am_ne c13 (by decide : (4 : Int32).toInt = 4); have c14_ := am_ne c14 (by decide : (5 : Int32).toInt = 5); have c16_ := am_ne c16 (by decide : (6 : Int32).toInt = 6); have c17_ := am_ne c17 (by decide : (7 : Int32).toInt = 7); omega), trivial⟩ ?_
                      cases h
                      exact hV.ri rfl rfl rfl hP

def X8_tellRing_B179 (n : Nat) (kont179 : am_M → Int32 → Int32 → Option am_M) (σ : am_M) (l3 : Int32) (l4 : Int32) : Option am_M := if (σ 0 60) ≤ l4 then (some σ) else (if (l3 + l4) < 0 ∨ 8 ≤ (l3 + l4).toNatClampNeg then none else (if l4 < 0 ∨ 8 ≤ l4.toNatClampNeg then none else (kont179 (sC σ 30 (upd (σ 30) l4.toNatClampNeg (σ 30 (l3 + l4).toNatClampNeg))) l3 (l4 + 1))))
def X8_tellRing_L179 (n : Nat) : Nat → am_M → Int32 → Int32 → Option am_M
 | 0 => fun _ _ _ => none
 | k + 1 => fun σ l3 l4 => X8_tellRing_B179 n (X8_tellRing_L179 n k) σ l3 l4
set_option maxRecDepth 100000 in
set_option maxHeartbeats 4000000 in
theorem p_X8_tellRing_B179 {l : Launch} {Post : Option Value → am_W → Prop} {V : am_VT} (hV : am_B l RX8 false 2 (am_cdT' tX8_tellRing) (am_rfL rfX8) none Post 36 V) (n : Nat) (res : am_M) (hP : Post none (wX8 res)) (kont179 : am_M → Int32 → Int32 → Option am_M) (hk179 : ∀ (σ : am_M) (l3 : Int32) (l4 : Int32), kont179 σ l3 l4 = some res → V (wX8 σ) 179 [(0, .ref 0), (3, .int l3), (4, .int l4)] []) (σ : am_M) (l3 : Int32) (l4 : Int32) (h : X8_tellRing_B179 n kont179 σ l3 l4 = some res) : V (wX8 σ) 179 [(0, .ref 0), (3, .int l3), (4, .int l4)] [] := by
  unfold X8_tellRing_B179 at h
  by_cases c1 : (σ 0 60) ≤ l4
  · rw [if_pos c1] at h
    refine hV.run 4 [1] (ws' := wX8 σ) (pc' := 210) (ls' := [(0, .ref 0), (3, .int l3), (4, .int l4)]) (st' := []) (ps := [(σ 0 60) ≤ l4]) rfl ⟨c1, trivial⟩ ?_
    cases h
    exact hV.rv rfl rfl rfl hP
  · rw [if_neg c1] at h
    by_cases g2 : (l3 + l4) < 0 ∨ 8 ≤ (l3 + l4).toNatClampNeg
    · rw [if_pos g2] at h; cases h
    rw [if_neg g2] at h
    by_cases g3 : l4 < 0 ∨ 8 ≤ l4.toNatClampNeg
    · rw [if_pos g3] at h; cases h
    rw [if_neg g3] at h
    refine hV.run 16 [0] (ws' := wX8 (sC σ 30 (upd (σ 30) l4.toNatClampNeg (σ 30 (l3 + l4).toNatClampNeg)))) (pc' := 179) (ls' := [(4, .int (l4 + 1)), (0, .ref 0), (3, .int l3)]) (st' := []) (ps := [¬ (σ 0 60) ≤ l4, vp_in (l3 + l4) 8, vp_in l4 8]) rfl ⟨c1, g2, g3, trivial⟩ ?_
    refine hV.pick [1, 2, 0] (ls' := [(0, .ref 0), (3, .int l3), (4, .int (l4 + 1))]) rfl ?_
    exact hk179 (sC σ 30 (upd (σ 30) l4.toNatClampNeg (σ 30 (l3 + l4).toNatClampNeg))) l3 (l4 + 1) h
theorem p_X8_tellRing_L179 {l : Launch} {Post : Option Value → am_W → Prop} {V : am_VT} (hV : am_B l RX8 false 2 (am_cdT' tX8_tellRing) (am_rfL rfX8) none Post 36 V) (n : Nat) (res : am_M) (hP : Post none (wX8 res)) : ∀ (k : Nat) (σ : am_M) (l3 : Int32) (l4 : Int32) (h : X8_tellRing_L179 n k σ l3 l4 = some res), V (wX8 σ) 179 [(0, .ref 0), (3, .int l3), (4, .int l4)] [] := by
  intro k
  induction k with
  | zero => intro σ l3 l4 h; cases h
  | succ k ih => intro σ l3 l4 h; exact p_X8_tellRing_B179 hV n res hP _ ih σ l3 l4 h
def X8_tellRing_J134 (n : Nat) (σ : am_M) (l1 : Int32) (l2 : Int32) : Option am_M := if (σ 0 3) ≤ l1 then (some σ) else (X8_own σ l1 0).bind (fun q2 => if q2 = (-1) then (some σ) else (if l1 < 0 ∨ 8 ≤ l1.toNatClampNeg then none else (if (σ 31 l1.toNatClampNeg) = 0 then (some σ) else (if l1 < 0 ∨ 8 ≤ l1.toNatClampNeg then none else (X8_tellRing_L179 n n (sC σ 0 (am_u (σ 0) 60 (l2 - (σ 32 l1.toNatClampNeg)))) (σ 32 l1.toNatClampNeg) 0)))))
set_option maxRecDepth 100000 in
set_option maxHeartbeats 4000000 in
theorem p_X8_tellRing_J134 {l : Launch} {Post : Option Value → am_W → Prop} {V : am_VT} (hV : am_B l RX8 false 2 (am_cdT' tX8_tellRing) (am_rfL rfX8) none Post 36 V) (n : Nat) (res : am_M) (hP : Post none (wX8 res)) (σ : am_M) (l1 : Int32) (l2 : Int32) (h : X8_tellRing_J134 n σ l1 l2 = some res) : V (wX8 σ) 134 [(0, .ref 0), (1, .int l1), (2, .int l2)] [] := by
  unfold X8_tellRing_J134 at h
  by_cases c1 : (σ 0 3) ≤ l1
  · rw [if_pos c1] at h
    refine hV.run 4 [1] (ws' := wX8 σ) (pc' := 161) (ls' := [(0, .ref 0), (1, .int l1), (2, .int l2)]) (st' := []) (ps := [(σ 0 3) ≤ l1]) rfl ⟨c1, trivial⟩ ?_
    cases h
    exact hV.rv rfl rfl rfl hP
  · rw [if_neg c1] at h
    refine hV.run 7 [0] (ws' := wX8 σ) (pc' := 145) (ls' := [(0, .ref 0), (1, .int l1), (2, .int l2)]) (st' := [.int 0, .int l1, .ref 0]) (ps := [¬ (σ 0 3) ≤ l1]) rfl ⟨c1, trivial⟩ ?_
    obtain ⟨q2, hq2, h⟩ := am_bind h
    refine hV.cOi (as := [.int l1, .int 0]) (rest := []) (st := [.int 0, .int l1, .ref 0]) (ws2 := wX8 σ) (pc2 := 148) kX8_337 (c_X8_own l σ l1 0 q2 hq2) rfl rfl rfl rfl rfl rfl rfl rfl rfl ?_
    by_cases c3 : q2 = (-1)
    · rw [if_pos c3] at h
      refine hV.run 2 [1] (ws' := wX8 σ) (pc' := 161) (ls' := [(0, .ref 0), (1, .int l1), (2, .int l2)]) (st' := []) (ps := [q2 = (-1)]) rfl ⟨c3, trivial⟩ ?_
      cases h
      exact hV.rv rfl rfl rfl hP
    · rw [if_neg c3] at h
      by_cases g4 : l1 < 0 ∨ 8 ≤ l1.toNatClampNeg
      · rw [if_pos g4] at h; cases h
      rw [if_neg g4] at h
      by_cases c5 : (σ 31 l1.toNatClampNeg) = 0
      · rw [if_pos c5] at h
        refine hV.run 7 [0, 0] (ws' := wX8 σ) (pc' := 161) (ls' := [(0, .ref 0), (1, .int l1), (2, .int l2)]) (st' := []) (ps := [¬ q2 = (-1), vp_in l1 8, (σ 31 l1.toNatClampNeg) = 0]) rfl ⟨c3, g4, c5, trivial⟩ ?_
        cases h
        exact hV.rv rfl rfl rfl hP
      · rw [if_neg c5] at h
        by_cases g6 : l1 < 0 ∨ 8 ≤ l1.toNatClampNeg
        · rw [if_pos g6] at h; cases h
        rw [if_neg g6] at h
        refine hV.run 19 [0, 1] (ws' := wX8 (sC σ 0 (am_u (σ 0) 60 (l2 - (σ 32 l1.toNatClampNeg))))) (pc' := 179) (ls' := [(4, .int 0), (3, .int (σ 32 l1.toNatClampNeg)), (0, .ref 0), (1, .int l1), (2, .int l2)]) (st' := []) (ps := [¬ q2 = (-1), vp_in l1 8, ¬ (σ 31 l1.toNatClampNeg) = 0, vp_in l1 8]) rfl ⟨c3, g4, c5, g6, trivial⟩ ?_
        refine hV.pick [2, 1, 0] (ls' := [(0, .ref 0), (3, .int (σ 32 l1.toNatClampNeg)), (4, .int 0)]) rfl ?_
        exact p_X8_tellRing_L179 hV n res hP n (sC σ 0 (am_u (σ 0) 60 (l2 - (σ 32 l1.toNatClampNeg)))) (σ 32 l1.toNatClampNeg) 0 h
def X8_tellRing_B110 (n : Nat) (kont54 : am_M → Int32 → Int32 → Option am_M) (kont110 : am_M → Int32 → Int32 → Int32 → Option am_M) (σ : am_M) (l1 : Int32) (l2 : Int32) (l3 : Int32) : Option am_M := if l1 < 0 ∨ 8 ≤ l1.toNatClampNeg then none else (if (((σ 31 l1.toNatClampNeg) >>> (l3 &&& 31)) &&& 1) = 0 then (kont110 σ l1 l2 (l3 + 1)) else (kont54 σ l3 l2))
def X8_tellRing_L110 (n : Nat) (kont54 : am_M → Int32 → Int32 → Option am_M) : Nat → am_M → Int32 → Int32 → Int32 → Option am_M
 | 0 => fun _ _ _ _ => none
 | k + 1 => fun σ l1 l2 l3 => X8_tellRing_B110 n kont54 (X8_tellRing_L110 n kont54 k) σ l1 l2 l3
set_option maxRecDepth 100000 in
set_option maxHeartbeats 4000000 in
theorem p_X8_tellRing_B110 {l : Launch} {Post : Option Value → am_W → Prop} {V : am_VT} (hV : am_B l RX8 false 2 (am_cdT' tX8_tellRing) (am_rfL rfX8) none Post 36 V) (n : Nat) (res : am_M) (hP : Post none (wX8 res)) (kont54 : am_M → Int32 → Int32 → Option am_M) (hk54 : ∀ (σ : am_M) (l1 : Int32) (l2 : Int32), kont54 σ l1 l2 = some res → V (wX8 σ) 54 [(0, .ref 0), (1, .int l1), (2, .int l2)] []) (kont110 : am_M → Int32 → Int32 → Int32 → Option am_M) (hk110 : ∀ (σ : am_M) (l1 : Int32) (l2 : Int32) (l3 : Int32), kont110 σ l1 l2 l3 = some res → V (wX8 σ) 110 [(0, .ref 0), (1, .int l1), (2, .int l2), (3, .int l3)] []) (σ : am_M) (l1 : Int32) (l2 : Int32) (l3 : Int32) (h : X8_tellRing_B110 n kont54 kont110 σ l1 l2 l3 = some res) : V (wX8 σ) 110 [(0, .ref 0), (1, .int l1), (2, .int l2), (3, .int l3)] [] := by
  unfold X8_tellRing_B110 at h
  by_cases g1 : l1 < 0 ∨ 8 ≤ l1.toNatClampNeg
  · rw [if_pos g1] at h; cases h
  rw [if_neg g1] at h
  by_cases c2 : (((σ 31 l1.toNatClampNeg) >>> (l3 &&& 31)) &&& 1) = 0
  · rw [if_pos c2] at h
    refine hV.run 11 [0] (ws' := wX8 σ) (pc' := 110) (ls' := [(3, .int (l3 + 1)), (0, .ref 0), (1, .int l1), (2, .int l2)]) (st' := []) (ps := [vp_in l1 8, (((σ 31 l1.toNatClampNeg) >>> (l3 &&& 31)) &&& 1) = 0]) rfl ⟨g1, c2, trivial⟩ ?_
    refine hV.pick [1, 2, 3, 0] (ls' := [(0, .ref 0), (1, .int l1), (2, .int l2), (3, .int (l3 + 1))]) rfl ?_
    exact hk110 σ l1 l2 (l3 + 1) h
  · rw [if_neg c2] at h
    refine hV.run 12 [1] (ws' := wX8 σ) (pc' := 54) (ls' := [(1, .int l3), (0, .ref 0), (2, .int l2), (3, .int l3)]) (st' := []) (ps := [vp_in l1 8, ¬ (((σ 31 l1.toNatClampNeg) >>> (l3 &&& 31)) &&& 1) = 0]) rfl ⟨g1, c2, trivial⟩ ?_
    refine hV.pick [1, 0, 2] (ls' := [(0, .ref 0), (1, .int l3), (2, .int l2)]) rfl ?_
    exact hk54 σ l3 l2 h
theorem p_X8_tellRing_L110 {l : Launch} {Post : Option Value → am_W → Prop} {V : am_VT} (hV : am_B l RX8 false 2 (am_cdT' tX8_tellRing) (am_rfL rfX8) none Post 36 V) (n : Nat) (res : am_M) (hP : Post none (wX8 res)) (kont54 : am_M → Int32 → Int32 → Option am_M) (hk54 : ∀ (σ : am_M) (l1 : Int32) (l2 : Int32), kont54 σ l1 l2 = some res → V (wX8 σ) 54 [(0, .ref 0), (1, .int l1), (2, .int l2)] []) : ∀ (k : Nat) (σ : am_M) (l1 : Int32) (l2 : Int32) (l3 : Int32) (h : X8_tellRing_L110 n kont54 k σ l1 l2 l3 = some res), V (wX8 σ) 110 [(0, .ref 0), (1, .int l1), (2, .int l2), (3, .int l3)] [] := by
  intro k
  induction k with
  | zero => intro σ l1 l2 l3 h; cases h
  | succ k ih => intro σ l1 l2 l3 h; exact p_X8_tellRing_B110 hV n res hP kont54 hk54 _ ih σ l1 l2 l3 h
def X8_tellRing_B54 (n : Nat) (kont54 : am_M → Int32 → Int32 → Option am_M) (σ : am_M) (l1 : Int32) (l2 : Int32) : Option am_M := if (σ 0 3) ≤ l1 then (X8_tellRing_J134 n σ l1 l2) else (X8_own σ l1 0).bind (fun q2 => if q2 = (-1) then (X8_tellRing_J134 n σ l1 l2) else (if l1 < 0 ∨ 8 ≤ l1.toNatClampNeg then none else (if (σ 31 l1.toNatClampNeg) = 0 then (X8_tellRing_J134 n σ l1 l2) else (if l1 < 0 ∨ 8 ≤ l1.toNatClampNeg then none else (if (σ 32 l1.toNatClampNeg) = (-1) then (if l1 < 0 ∨ 8 ≤ l1.toNatClampNeg then none else (if l2 < 0 ∨ 8 ≤ l2.toNatClampNeg then none else (X8_tellRing_L110 n kont54 n (sC (sC σ 30 (upd (σ 30) l2.toNatClampNeg l1)) 32 (upd (σ 32) l1.toNatClampNeg l2)) l1 (l2 + 1) 0))) else (X8_tellRing_J134 n σ l1 l2))))))
def X8_tellRing_L54 (n : Nat) : Nat → am_M → Int32 → Int32 → Option am_M
 | 0 => fun _ _ _ => none
 | k + 1 => fun σ l1 l2 => X8_tellRing_B54 n (X8_tellRing_L54 n k) σ l1 l2
set_option maxRecDepth 100000 in
set_option maxHeartbeats 4000000 in
theorem p_X8_tellRing_B54 {l : Launch} {Post : Option Value → am_W → Prop} {V : am_VT} (hV : am_B l RX8 false 2 (am_cdT' tX8_tellRing) (am_rfL rfX8) none Post 36 V) (n : Nat) (res : am_M) (hP : Post none (wX8 res)) (kont54 : am_M → Int32 → Int32 → Option am_M) (hk54 : ∀ (σ : am_M) (l1 : Int32) (l2 : Int32), kont54 σ l1 l2 = some res → V (wX8 σ) 54 [(0, .ref 0), (1, .int l1), (2, .int l2)] []) (σ : am_M) (l1 : Int32) (l2 : Int32) (h : X8_tellRing_B54 n kont54 σ l1 l2 = some res) : V (wX8 σ) 54 [(0, .ref 0), (1, .int l1), (2, .int l2)] [] := by
  unfold X8_tellRing_B54 at h
  by_cases c1 : (σ 0 3) ≤ l1
  · rw [if_pos c1] at h
    refine hV.run 4 [1] (ws' := wX8 σ) (pc' := 134) (ls' := [(0, .ref 0), (1, .int l1), (2, .int l2)]) (st' := []) (ps := [(σ 0 3) ≤ l1]) rfl ⟨c1, trivial⟩ ?_
    exact p_X8_tellRing_J134 hV n res hP σ l1 l2 h
  · rw [if_neg c1] at h
    refine hV.run 7 [0] (ws' := wX8 σ) (pc' := 65) (ls' := [(0, .ref 0), (1, .int l1), (2, .int l2)]) (st' := [.int 0, .int l1, .ref 0]) (ps := [¬ (σ 0 3) ≤ l1]) rfl ⟨c1, trivial⟩ ?_
    obtain ⟨q2, hq2, h⟩ := am_bind h
    refine hV.cOi (as := [.int l1, .int 0]) (rest := []) (st := [.int 0, .int l1, .ref 0]) (ws2 := wX8 σ) (pc2 := 68) kX8_337 (c_X8_own l σ l1 0 q2 hq2) rfl rfl rfl rfl rfl rfl rfl rfl rfl ?_
    by_cases c3 : q2 = (-1)
    · rw [if_pos c3] at h
      refine hV.run 2 [1] (ws' := wX8 σ) (pc' := 134) (ls' := [(0, .ref 0), (1, .int l1), (2, .int l2)]) (st' := []) (ps := [q2 = (-1)]) rfl ⟨c3, trivial⟩ ?_
      exact p_X8_tellRing_J134 hV n res hP σ l1 l2 h
    · rw [if_neg c3] at h
      by_cases g4 : l1 < 0 ∨ 8 ≤ l1.toNatClampNeg
      · rw [if_pos g4] at h; cases h
      rw [if_neg g4] at h
      by_cases c5 : (σ 31 l1.toNatClampNeg) = 0
      · rw [if_pos c5] at h
        refine hV.run 7 [0, 1] (ws' := wX8 σ) (pc' := 134) (ls' := [(0, .ref 0), (1, .int l1), (2, .int l2)]) (st' := []) (ps := [¬ q2 = (-1), vp_in l1 8, (σ 31 l1.toNatClampNeg) = 0]) rfl ⟨c3, g4, c5, trivial⟩ ?_
        exact p_X8_tellRing_J134 hV n res hP σ l1 l2 h
      · rw [if_neg c5] at h
        by_cases g6 : l1 < 0 ∨ 8 ≤ l1.toNatClampNeg
        · rw [if_pos g6] at h; cases h
        rw [if_neg g6] at h
        by_cases c7 : (σ 32 l1.toNatClampNeg) = (-1)
        · rw [if_pos c7] at h
          by_cases g8 : l1 < 0 ∨ 8 ≤ l1.toNatClampNeg
          · rw [if_pos g8] at h; cases h
          rw [if_neg g8] at h
          by_cases g9 : l2 < 0 ∨ 8 ≤ l2.toNatClampNeg
          · rw [if_pos g9] at h; cases h
          rw [if_neg g9] at h
          refine hV.run 26 [0, 0, 0] (ws' := wX8 (sC (sC σ 30 (upd (σ 30) l2.toNatClampNeg l1)) 32 (upd (σ 32) l1.toNatClampNeg l2))) (pc' := 110) (ls' := [(3, .int 0), (2, .int (l2 + 1)), (0, .ref 0), (1, .int l1)]) (st' := []) (ps := [¬ q2 = (-1), vp_in l1 8, ¬ (σ 31 l1.toNatClampNeg) = 0, vp_in l1 8, (σ 32 l1.toNatClampNeg) = (-1), vp_in l1 8, vp_in l2 8]) rfl ⟨c3, g4, c5, g6, c7, g8, g9, trivial⟩ ?_
          refine hV.pick [2, 3, 1, 0] (ls' := [(0, .ref 0), (1, .int l1), (2, .int (l2 + 1)), (3, .int 0)]) rfl ?_
          exact p_X8_tellRing_L110 hV n res hP kont54 hk54 n (sC (sC σ 30 (upd (σ 30) l2.toNatClampNeg l1)) 32 (upd (σ 32) l1.toNatClampNeg l2)) l1 (l2 + 1) 0 h
        · rw [if_neg c7] at h
          refine hV.run 13 [0, 0, 1] (ws' := wX8 σ) (pc' := 134) (ls' := [(0, .ref 0), (1, .int l1), (2, .int l2)]) (st' := []) (ps := [¬ q2 = (-1), vp_in l1 8, ¬ (σ 31 l1.toNatClampNeg) = 0, vp_in l1 8, ¬ (σ 32 l1.toNatClampNeg) = (-1)]) rfl ⟨c3, g4, c5, g6, c7, trivial⟩ ?_
          exact p_X8_tellRing_J134 hV n res hP σ l1 l2 h
theorem p_X8_tellRing_L54 {l : Launch} {Post : Option Value → am_W → Prop} {V : am_VT} (hV : am_B l RX8 false 2 (am_cdT' tX8_tellRing) (am_rfL rfX8) none Post 36 V) (n : Nat) (res : am_M) (hP : Post none (wX8 res)) : ∀ (k : Nat) (σ : am_M) (l1 : Int32) (l2 : Int32) (h : X8_tellRing_L54 n k σ l1 l2 = some res), V (wX8 σ) 54 [(0, .ref 0), (1, .int l1), (2, .int l2)] [] := by
  intro k
  induction k with
  | zero => intro σ l1 l2 h; cases h
  | succ k ih => intro σ l1 l2 h; exact p_X8_tellRing_B54 hV n res hP _ ih σ l1 l2 h
def X8_tellRing_B33 (n : Nat) (kont33 : am_M → Int32 → Int32 → Option am_M) (σ : am_M) (l1 : Int32) (l2 : Int32) : Option am_M := if 8 ≤ l2 then (X8_tellRing_L54 n n σ l1 0) else (if l2 < 0 ∨ 8 ≤ l2.toNatClampNeg then none else (kont33 (sC σ 32 (upd (σ 32) l2.toNatClampNeg (-1))) l1 (l2 + 1)))
def X8_tellRing_L33 (n : Nat) : Nat → am_M → Int32 → Int32 → Option am_M
 | 0 => fun _ _ _ => none
 | k + 1 => fun σ l1 l2 => X8_tellRing_B33 n (X8_tellRing_L33 n k) σ l1 l2
set_option maxRecDepth 100000 in
set_option maxHeartbeats 4000000 in
theorem p_X8_tellRing_B33 {l : Launch} {Post : Option Value → am_W → Prop} {V : am_VT} (hV : am_B l RX8 false 2 (am_cdT' tX8_tellRing) (am_rfL rfX8) none Post 36 V) (n : Nat) (res : am_M) (hP : Post none (wX8 res)) (kont33 : am_M → Int32 → Int32 → Option am_M) (hk33 : ∀ (σ : am_M) (l1 : Int32) (l2 : Int32), kont33 σ l1 l2 = some res → V (wX8 σ) 33 [(0, .ref 0), (1, .int l1), (2, .int l2)] []) (σ : am_M) (l1 : Int32) (l2 : Int32) (h : X8_tellRing_B33 n kont33 σ l1 l2 = some res) : V (wX8 σ) 33 [(0, .ref 0), (1, .int l1), (2, .int l2)] [] := by
  unfold X8_tellRing_B33 at h
  by_cases c1 : 8 ≤ l2
  · rw [if_pos c1] at h
    refine hV.run 5 [1] (ws' := wX8 σ) (pc' := 54) (ls' := [(2, .int 0), (0, .ref 0), (1, .int l1)]) (st' := []) (ps := [8 ≤ l2]) rfl ⟨c1, trivial⟩ ?_
    refine hV.pick [1, 2, 0] (ls' := [(0, .ref 0), (1, .int l1), (2, .int 0)]) rfl ?_
    exact p_X8_tellRing_L54 hV n res hP n σ l1 0 h
  · rw [if_neg c1] at h
    by_cases g2 : l2 < 0 ∨ 8 ≤ l2.toNatClampNeg
    · rw [if_pos g2] at h; cases h
    rw [if_neg g2] at h
    refine hV.run 10 [0] (ws' := wX8 (sC σ 32 (upd (σ 32) l2.toNatClampNeg (-1)))) (pc' := 33) (ls' := [(2, .int (l2 + 1)), (0, .ref 0), (1, .int l1)]) (st' := []) (ps := [¬ 8 ≤ l2, vp_in l2 8]) rfl ⟨c1, g2, trivial⟩ ?_
    refine hV.pick [1, 2, 0] (ls' := [(0, .ref 0), (1, .int l1), (2, .int (l2 + 1))]) rfl ?_
    exact hk33 (sC σ 32 (upd (σ 32) l2.toNatClampNeg (-1))) l1 (l2 + 1) h
theorem p_X8_tellRing_L33 {l : Launch} {Post : Option Value → am_W → Prop} {V : am_VT} (hV : am_B l RX8 false 2 (am_cdT' tX8_tellRing) (am_rfL rfX8) none Post 36 V) (n : Nat) (res : am_M) (hP : Post none (wX8 res)) : ∀ (k : Nat) (σ : am_M) (l1 : Int32) (l2 : Int32) (h : X8_tellRing_L33 n k σ l1 l2 = some res), V (wX8 σ) 33 [(0, .ref 0), (1, .int l1), (2, .int l2)] [] := by
  intro k
  induction k with
  | zero => intro σ l1 l2 h; cases h
  | succ k ih => intro σ l1 l2 h; exact p_X8_tellRing_B33 hV n res hP _ ih σ l1 l2 h
def X8_tellRing_J31 (n : Nat) (σ : am_M) (l1 : Int32) : Option am_M := X8_tellRing_L33 n n σ l1 0
set_option maxRecDepth 100000 in
set_option maxHeartbeats 4000000 in
theorem p_X8_tellRing_J31 {l : Launch} {Post : Option Value → am_W → Prop} {V : am_VT} (hV : am_B l RX8 false 2 (am_cdT' tX8_tellRing) (am_rfL rfX8) none Post 36 V) (n : Nat) (res : am_M) (hP : Post none (wX8 res)) (σ : am_M) (l1 : Int32) (h : X8_tellRing_J31 n σ l1 = some res) : V (wX8 σ) 31 [(0, .ref 0), (1, .int l1)] [] := by
  unfold X8_tellRing_J31 at h
  refine hV.run 2 [] (ws' := wX8 σ) (pc' := 33) (ls' := [(2, .int 0), (0, .ref 0), (1, .int l1)]) (st' := []) (ps := []) rfl trivial ?_
  refine hV.pick [1, 2, 0] (ls' := [(0, .ref 0), (1, .int l1), (2, .int 0)]) rfl ?_
  exact p_X8_tellRing_L33 hV n res hP n σ l1 0 h
def X8_tellRing_B7 (n : Nat) (kont7 : am_M → Int32 → Option am_M) (σ : am_M) (l1 : Int32) : Option am_M := if (σ 0 3) ≤ l1 then (X8_tellRing_J31 n σ l1) else (X8_own σ l1 0).bind (fun q2 => if q2 = (-1) then (kont7 σ (l1 + 1)) else (X8_tellRing_J31 n σ l1))
def X8_tellRing_L7 (n : Nat) : Nat → am_M → Int32 → Option am_M
 | 0 => fun _ _ => none
 | k + 1 => fun σ l1 => X8_tellRing_B7 n (X8_tellRing_L7 n k) σ l1
set_option maxRecDepth 100000 in
set_option maxHeartbeats 4000000 in
theorem p_X8_tellRing_B7 {l : Launch} {Post : Option Value → am_W → Prop} {V : am_VT} (hV : am_B l RX8 false 2 (am_cdT' tX8_tellRing) (am_rfL rfX8) none Post 36 V) (n : Nat) (res : am_M) (hP : Post none (wX8 res)) (kont7 : am_M → Int32 → Option am_M) (hk7 : ∀ (σ : am_M) (l1 : Int32), kont7 σ l1 = some res → V (wX8 σ) 7 [(0, .ref 0), (1, .int l1)] []) (σ : am_M) (l1 : Int32) (h : X8_tellRing_B7 n kont7 σ l1 = some res) : V (wX8 σ) 7 [(0, .ref 0), (1, .int l1)] [] := by
  unfold X8_tellRing_B7 at h
  by_cases c1 : (σ 0 3) ≤ l1
  · rw [if_pos c1] at h
    refine hV.run 4 [1] (ws' := wX8 σ) (pc' := 31) (ls' := [(0, .ref 0), (1, .int l1)]) (st' := []) (ps := [(σ 0 3) ≤ l1]) rfl ⟨c1, trivial⟩ ?_
    exact p_X8_tellRing_J31 hV n res hP σ l1 h
  · rw [if_neg c1] at h
    refine hV.run 7 [0] (ws' := wX8 σ) (pc' := 18) (ls' := [(0, .ref 0), (1, .int l1)]) (st' := [.int 0, .int l1, .ref 0]) (ps := [¬ (σ 0 3) ≤ l1]) rfl ⟨c1, trivial⟩ ?_
    obtain ⟨q2, hq2, h⟩ := am_bind h
    refine hV.cOi (as := [.int l1, .int 0]) (rest := []) (st := [.int 0, .int l1, .ref 0]) (ws2 := wX8 σ) (pc2 := 21) kX8_337 (c_X8_own l σ l1 0 q2 hq2) rfl rfl rfl rfl rfl rfl rfl rfl rfl ?_
    by_cases c3 : q2 = (-1)
    · rw [if_pos c3] at h
      refine hV.run 4 [0] (ws' := wX8 σ) (pc' := 7) (ls' := [(1, .int (l1 + 1)), (0, .ref 0)]) (st' := []) (ps := [q2 = (-1)]) rfl ⟨c3, trivial⟩ ?_
      refine hV.pick [1, 0] (ls' := [(0, .ref 0), (1, .int (l1 + 1))]) rfl ?_
      exact hk7 σ (l1 + 1) h
    · rw [if_neg c3] at h
      refine hV.run 2 [1] (ws' := wX8 σ) (pc' := 31) (ls' := [(0, .ref 0), (1, .int l1)]) (st' := []) (ps := [¬ q2 = (-1)]) rfl ⟨c3, trivial⟩ ?_
      exact p_X8_tellRing_J31 hV n res hP σ l1 h
theorem p_X8_tellRing_L7 {l : Launch} {Post : Option Value → am_W → Prop} {V : am_VT} (hV : am_B l RX8 false 2 (am_cdT' tX8_tellRing) (am_rfL rfX8) none Post 36 V) (n : Nat) (res : am_M) (hP : Post none (wX8 res)) : ∀ (k : Nat) (σ : am_M) (l1 : Int32) (h : X8_tellRing_L7 n k σ l1 = some res), V (wX8 σ) 7 [(0, .ref 0), (1, .int l1)] [] := by
  intro k
  induction k with
  | zero => intro σ l1 h; cases h
  | succ k ih => intro σ l1 h; exact p_X8_tellRing_B7 hV n res hP _ ih σ l1 h
def X8_tellRing (n : Nat) (σ : am_M) : Option am_M := X8_tellRing_L7 n n (sC σ 0 (am_u (σ 0) 60 0)) 0
set_option maxRecDepth 100000 in
set_option maxHeartbeats 4000000 in
theorem c_X8_tellRing (l : Launch) (n : Nat) (σ : am_M) (res : am_M) (h : X8_tellRing n σ = some res) : am_Con l yX8_tellRing cX8_tellRing 5 none 2 [.ref 0] (wX8 σ) (fun (r : Option Value) (w : am_W) => r = none ∧ w = (wX8 res)) := by
  refine am_metn (n0 := 36) (own := RX8) (cd := am_cdT' tX8_tellRing) (rf := am_rfL rfX8) (ini := false) rfl (by decide +kernel) rfl (by decide) dX8_tellRing rfX8_ok (Nat.le_of_ble_eq_true rfl) ?_
  intro V hV
  have hP : (fun (r : Option Value) (w : am_W) => r = none ∧ w = (wX8 res)) none (wX8 res) := ⟨rfl, rfl⟩
  show V (wX8 σ) 0 [(0, .ref 0)] []
  unfold X8_tellRing at h
  refine hV.run 5 [] (ws' := wX8 (sC σ 0 (am_u (σ 0) 60 0))) (pc' := 7) (ls' := [(1, .int 0), (0, .ref 0)]) (st' := []) (ps := []) rfl trivial ?_
  refine hV.pick [1, 0] (ls' := [(0, .ref 0), (1, .int 0)]) rfl ?_
  exact p_X8_tellRing_L7 hV n res hP n (sC σ 0 (am_u (σ 0) 60 0)) 0 h

def X8_play_B171 (n : Nat) (kont171 : am_M → Int32 → Int32 → Option (Int32 × am_M)) (σ : am_M) (l4 : Int32) (l5 : Int32) : Option (Int32 × am_M) := if (σ 0 59) ≤ l5 then (some (l4, sC σ 0 (am_u (am_u (σ 0) 57 (σ 0 3)) 58 (σ 0 8)))) else (if l5 < 0 ∨ 320 ≤ l5.toNatClampNeg then none else (if l5 < 0 ∨ 320 ≤ l5.toNatClampNeg then none else (kont171 (sC σ 35 (upd (σ 35) l5.toNatClampNeg (σ 29 l5.toNatClampNeg))) l4 (l5 + 1))))
def X8_play_L171 (n : Nat) : Nat → am_M → Int32 → Int32 → Option (Int32 × am_M)
 | 0 => fun _ _ _ => none
 | k + 1 => fun σ l4 l5 => X8_play_B171 n (X8_play_L171 n k) σ l4 l5
set_option maxRecDepth 100000 in
set_option maxHeartbeats 4000000 in
theorem p_X8_play_B171 {l : Launch} {Post : Option Value → am_W → Prop} {V : am_VT} (hV : am_B l RX8 false 11 (am_cdT' tX8_play) (am_rfL rfX8) (some .int) Post 36 V) (n : Nat) (res : (Int32 × am_M)) (hP : Post (some (.int res.1)) (wX8 res.2)) (kont171 : am_M → Int32 → Int32 → Option (Int32 × am_M)) (hk171 : ∀ (σ : am_M) (l4 : Int32) (l5 : Int32), kont171 σ l4 l5 = some res → V (wX8 σ) 171 [(0, .ref 0), (4, .int l4), (5, .int l5)] []) (σ : am_M) (l4 : Int32) (l5 : Int32) (h : X8_play_B171 n kont171 σ l4 l5 = some res) : V (wX8 σ) 171 [(0, .ref 0), (4, .int l4), (5, .int l5)] [] := by
  unfold X8_play_B171 at h
  by_cases c1 : (σ 0 59) ≤ l5
  · rw [if_pos c1] at h
    refine hV.run 13 [1] (ws' := wX8 (sC σ 0 (am_u (am_u (σ 0) 57 (σ 0 3)) 58 (σ 0 8)))) (pc' := 218) (ls' := [(0, .ref 0), (4, .int l4), (5, .int l5)]) (st' := [.int l4]) (ps := [(σ 0 59) ≤ l5]) rfl ⟨c1, trivial⟩ ?_
    cases h
    exact hV.ri rfl rfl rfl hP
  · rw [if_neg c1] at h
    by_cases g2 : l5 < 0 ∨ 320 ≤ l5.toNatClampNeg
    · rw [if_pos g2] at h; cases h
    rw [if_neg g2] at h
    by_cases g3 : l5 < 0 ∨ 320 ≤ l5.toNatClampNeg
    · rw [if_pos g3] at h; cases h
    rw [if_neg g3] at h
    refine hV.run 14 [0] (ws' := wX8 (sC σ 35 (upd (σ 35) l5.toNatClampNeg (σ 29 l5.toNatClampNeg)))) (pc' := 171) (ls' := [(5, .int (l5 + 1)), (0, .ref 0), (4, .int l4)]) (st' := []) (ps := [¬ (σ 0 59) ≤ l5, vp_in l5 320, vp_in l5 320]) rfl ⟨c1, g2, g3, trivial⟩ ?_
    refine hV.pick [1, 2, 0] (ls' := [(0, .ref 0), (4, .int l4), (5, .int (l5 + 1))]) rfl ?_
    exact hk171 (sC σ 35 (upd (σ 35) l5.toNatClampNeg (σ 29 l5.toNatClampNeg))) l4 (l5 + 1) h
theorem p_X8_play_L171 {l : Launch} {Post : Option Value → am_W → Prop} {V : am_VT} (hV : am_B l RX8 false 11 (am_cdT' tX8_play) (am_rfL rfX8) (some .int) Post 36 V) (n : Nat) (res : (Int32 × am_M)) (hP : Post (some (.int res.1)) (wX8 res.2)) : ∀ (k : Nat) (σ : am_M) (l4 : Int32) (l5 : Int32) (h : X8_play_L171 n k σ l4 l5 = some res), V (wX8 σ) 171 [(0, .ref 0), (4, .int l4), (5, .int l5)] [] := by
  intro k
  induction k with
  | zero => intro σ l4 l5 h; cases h
  | succ k ih => intro σ l4 l5 h; exact p_X8_play_B171 hV n res hP _ ih σ l4 l5 h
def X8_play_B133 (n : Nat) (kont133 : am_M → Int32 → Int32 → Option (Int32 × am_M)) (σ : am_M) (l4 : Int32) (l5 : Int32) : Option (Int32 × am_M) := if 64 ≤ l5 then (X8_play_L171 n n (sC σ 0 (am_u (σ 0) 68 (σ 0 59))) l4 0) else (if l5 < 0 ∨ 1985 ≤ l5.toNatClampNeg then none else (if l5 < 0 ∨ 1985 ≤ l5.toNatClampNeg then none else (kont133 (sC σ 28 (upd (σ 28) l5.toNatClampNeg (σ 15 l5.toNatClampNeg))) l4 (l5 + 1))))
def X8_play_L133 (n : Nat) : Nat → am_M → Int32 → Int32 → Option (Int32 × am_M)
 | 0 => fun _ _ _ => none
 | k + 1 => fun σ l4 l5 => X8_play_B133 n (X8_play_L133 n k) σ l4 l5
set_option maxRecDepth 100000 in
set_option maxHeartbeats 4000000 in
theorem p_X8_play_B133 {l : Launch} {Post : Option Value → am_W → Prop} {V : am_VT} (hV : am_B l RX8 false 11 (am_cdT' tX8_play) (am_rfL rfX8) (some .int) Post 36 V) (n : Nat) (res : (Int32 × am_M)) (hP : Post (some (.int res.1)) (wX8 res.2)) (kont133 : am_M → Int32 → Int32 → Option (Int32 × am_M)) (hk133 : ∀ (σ : am_M) (l4 : Int32) (l5 : Int32), kont133 σ l4 l5 = some res → V (wX8 σ) 133 [(0, .ref 0), (4, .int l4), (5, .int l5)] []) (σ : am_M) (l4 : Int32) (l5 : Int32) (h : X8_play_B133 n kont133 σ l4 l5 = some res) : V (wX8 σ) 133 [(0, .ref 0), (4, .int l4), (5, .int l5)] [] := by
  unfold X8_play_B133 at h
  by_cases c1 : 64 ≤ l5
  · rw [if_pos c1] at h
    refine hV.run 9 [1] (ws' := wX8 (sC σ 0 (am_u (σ 0) 68 (σ 0 59)))) (pc' := 171) (ls' := [(5, .int 0), (0, .ref 0), (4, .int l4)]) (st' := []) (ps := [64 ≤ l5]) rfl ⟨c1, trivial⟩ ?_
    refine hV.pick [1, 2, 0] (ls' := [(0, .ref 0), (4, .int l4), (5, .int 0)]) rfl ?_
    exact p_X8_play_L171 hV n res hP n (sC σ 0 (am_u (σ 0) 68 (σ 0 59))) l4 0 h
  · rw [if_neg c1] at h
    by_cases g2 : l5 < 0 ∨ 1985 ≤ l5.toNatClampNeg
    · rw [if_pos g2] at h; cases h
    rw [if_neg g2] at h
    by_cases g3 : l5 < 0 ∨ 1985 ≤ l5.toNatClampNeg
    · rw [if_pos g3] at h; cases h
    rw [if_neg g3] at h
    refine hV.run 13 [0] (ws' := wX8 (sC σ 28 (upd (σ 28) l5.toNatClampNeg (σ 15 l5.toNatClampNeg)))) (pc' := 133) (ls' := [(5, .int (l5 + 1)), (0, .ref 0), (4, .int l4)]) (st' := []) (ps := [¬ 64 ≤ l5, vp_in l5 1985, vp_in l5 1985]) rfl ⟨c1, g2, g3, trivial⟩ ?_
    refine hV.pick [1, 2, 0] (ls' := [(0, .ref 0), (4, .int l4), (5, .int (l5 + 1))]) rfl ?_
    exact hk133 (sC σ 28 (upd (σ 28) l5.toNatClampNeg (σ 15 l5.toNatClampNeg))) l4 (l5 + 1) h
theorem p_X8_play_L133 {l : Launch} {Post : Option Value → am_W → Prop} {V : am_VT} (hV : am_B l RX8 false 11 (am_cdT' tX8_play) (am_rfL rfX8) (some .int) Post 36 V) (n : Nat) (res : (Int32 × am_M)) (hP : Post (some (.int res.1)) (wX8 res.2)) : ∀ (k : Nat) (σ : am_M) (l4 : Int32) (l5 : Int32) (h : X8_play_L133 n k σ l4 l5 = some res), V (wX8 σ) 133 [(0, .ref 0), (4, .int l4), (5, .int l5)] [] := by
  intro k
  induction k with
  | zero => intro σ l4 l5 h; cases h
  | succ k ih => intro σ l4 l5 h; exact p_X8_play_B133 hV n res hP _ ih σ l4 l5 h
def X8_play_B70 (n : Nat) (kont70 : am_M → Int32 → Int32 → Option (Int32 × am_M)) (σ : am_M) (l4 : Int32) (l5 : Int32) : Option (Int32 × am_M) := if (σ 0 3) ≤ l5 then (X8_tellRing n σ).bind (fun q2 => X8_play_L133 n n q2 l4 0) else (X8_waitsFor n σ l5).bind (fun q3 => if l5 < 0 ∨ 8 ≤ l5.toNatClampNeg then none else (if l5 < 0 ∨ 8 ≤ l5.toNatClampNeg then none else (if l5 < 0 ∨ 8 ≤ l5.toNatClampNeg then none else (if l5 < 0 ∨ 8 ≤ l5.toNatClampNeg then none else (if l5 < 0 ∨ 8 ≤ l5.toNatClampNeg then none else (kont70 (sC (sC (sC q3.2 31 (upd (q3.2 31) l5.toNatClampNeg q3.1)) 33 (upd (q3.2 33) l5.toNatClampNeg ((q3.2 17) l5.toNatClampNeg))) 34 (upd (q3.2 34) l5.toNatClampNeg ((q3.2 18) l5.toNatClampNeg))) l4 (l5 + 1)))))))
def X8_play_L70 (n : Nat) : Nat → am_M → Int32 → Int32 → Option (Int32 × am_M)
 | 0 => fun _ _ _ => none
 | k + 1 => fun σ l4 l5 => X8_play_B70 n (X8_play_L70 n k) σ l4 l5
set_option maxRecDepth 100000 in
set_option maxHeartbeats 4000000 in
theorem p_X8_play_B70 {l : Launch} {Post : Option Value → am_W → Prop} {V : am_VT} (hV : am_B l RX8 false 11 (am_cdT' tX8_play) (am_rfL rfX8) (some .int) Post 36 V) (n : Nat) (res : (Int32 × am_M)) (hP : Post (some (.int res.1)) (wX8 res.2)) (kont70 : am_M → Int32 → Int32 → Option (Int32 × am_M)) (hk70 : ∀ (σ : am_M) (l4 : Int32) (l5 : Int32), kont70 σ l4 l5 = some res → V (wX8 σ) 70 [(0, .ref 0), (4, .int l4), (5, .int l5)] []) (σ : am_M) (l4 : Int32) (l5 : Int32) (h : X8_play_B70 n kont70 σ l4 l5 = some res) : V (wX8 σ) 70 [(0, .ref 0), (4, .int l4), (5, .int l5)] [] := by
  unfold X8_play_B70 at h
  by_cases c1 : (σ 0 3) ≤ l5
  · rw [if_pos c1] at h
    refine hV.run 5 [1] (ws' := wX8 σ) (pc' := 127) (ls' := [(0, .ref 0), (4, .int l4), (5, .int l5)]) (st' := [.ref 0]) (ps := [(σ 0 3) ≤ l5]) rfl ⟨c1, trivial⟩ ?_
    obtain ⟨q2, hq2, h⟩ := am_bind h
    refine hV.cOv (as := []) (rest := []) (st := [.ref 0]) (ws2 := wX8 q2) (pc2 := 130) kX8_507 (c_X8_tellRing l n σ q2 hq2) rfl rfl rfl rfl rfl rfl rfl rfl rfl ?_
    refine hV.run 2 [] (ws' := wX8 q2) (pc' := 133) (ls' := [(5, .int 0), (0, .ref 0), (4, .int l4)]) (st' := []) (ps := []) rfl trivial ?_
    refine hV.pick [1, 2, 0] (ls' := [(0, .ref 0), (4, .int l4), (5, .int 0)]) rfl ?_
    exact p_X8_play_L133 hV n res hP n q2 l4 0 h
  · rw [if_neg c1] at h
    refine hV.run 9 [0] (ws' := wX8 σ) (pc' := 88) (ls' := [(0, .ref 0), (4, .int l4), (5, .int l5)]) (st' := [.int l5, .ref 0, .int l5, .ref 31]) (ps := [¬ (σ 0 3) ≤ l5]) rfl ⟨c1, trivial⟩ ?_
    obtain ⟨q3, hq3, h⟩ := am_bind h
    refine hV.cOi (as := [.int l5]) (rest := [.int l5, .ref 31]) (st := [.int l5, .ref 0, .int l5, .ref 31]) (ws2 := wX8 q3.2) (pc2 := 91) kX8_504 (c_X8_waitsFor l n σ l5 q3 hq3) rfl rfl rfl rfl rfl rfl rfl rfl rfl ?_
    by_cases g4 : l5 < 0 ∨ 8 ≤ l5.toNatClampNeg
    · rw [if_pos g4] at h; cases h
    rw [if_neg g4] at h
    by_cases g5 : l5 < 0 ∨ 8 ≤ l5.toNatClampNeg
    · rw [if_pos g5] at h; cases h
    rw [if_neg g5] at h
    by_cases g6 : l5 < 0 ∨ 8 ≤ l5.toNatClampNeg
    · rw [if_pos g6] at h; cases h
    rw [if_neg g6] at h
    by_cases g7 : l5 < 0 ∨ 8 ≤ l5.toNatClampNeg
    · rw [if_pos g7] at h; cases h
    rw [if_neg g7] at h
    by_cases g8 : l5 < 0 ∨ 8 ≤ l5.toNatClampNeg
    · rw [if_pos g8] at h; cases h
    rw [if_neg g8] at h
    refine hV.run 19 [] (ws' := wX8 (sC (sC (sC q3.2 31 (upd (q3.2 31) l5.toNatClampNeg q3.1)) 33 (upd (q3.2 33) l5.toNatClampNeg ((q3.2 17) l5.toNatClampNeg))) 34 (upd (q3.2 34) l5.toNatClampNeg ((q3.2 18) l5.toNatClampNeg)))) (pc' := 70) (ls' := [(5, .int (l5 + 1)), (0, .ref 0), (4, .int l4)]) (st' := []) (ps := [vp_in l5 8, vp_in l5 8, vp_in l5 8, vp_in l5 8, vp_in l5 8]) rfl ⟨g4, g5, g6, g7, g8, trivial⟩ ?_
    refine hV.pick [1, 2, 0] (ls' := [(0, .ref 0), (4, .int l4), (5, .int (l5 + 1))]) rfl ?_
    exact hk70 (sC (sC (sC q3.2 31 (upd (q3.2 31) l5.toNatClampNeg q3.1)) 33 (upd (q3.2 33) l5.toNatClampNeg ((q3.2 17) l5.toNatClampNeg))) 34 (upd (q3.2 34) l5.toNatClampNeg ((q3.2 18) l5.toNatClampNeg))) l4 (l5 + 1) h
theorem p_X8_play_L70 {l : Launch} {Post : Option Value → am_W → Prop} {V : am_VT} (hV : am_B l RX8 false 11 (am_cdT' tX8_play) (am_rfL rfX8) (some .int) Post 36 V) (n : Nat) (res : (Int32 × am_M)) (hP : Post (some (.int res.1)) (wX8 res.2)) : ∀ (k : Nat) (σ : am_M) (l4 : Int32) (l5 : Int32) (h : X8_play_L70 n k σ l4 l5 = some res), V (wX8 σ) 70 [(0, .ref 0), (4, .int l4), (5, .int l5)] [] := by
  intro k
  induction k with
  | zero => intro σ l4 l5 h; cases h
  | succ k ih => intro σ l4 l5 h; exact p_X8_play_B70 hV n res hP _ ih σ l4 l5 h
def X8_play_B24 (n : Nat) (kont24 : am_M → Int32 → Int64 → Int32 → Option (Int32 × am_M)) (σ : am_M) (l1 : Int32) (l2 : Int64) (l4 : Int32) : Option (Int32 × am_M) := if l1 ≤ l4 then (X8_run n σ l1 l2).bind (fun q2 => X8_play_L70 n n q2.2 q2.1 0) else (if (((am_lshr l2 (4 * l4)).toInt32) &&& 15) < (σ 0 3) then (kont24 σ l1 l2 (l4 + 1)) else (X8_fail σ 1).bind (fun q4 => some (q4.1, q4.2)))
def X8_play_L24 (n : Nat) : Nat → am_M → Int32 → Int64 → Int32 → Option (Int32 × am_M)
 | 0 => fun _ _ _ _ => none
 | k + 1 => fun σ l1 l2 l4 => X8_play_B24 n (X8_play_L24 n k) σ l1 l2 l4
set_option maxRecDepth 100000 in
set_option maxHeartbeats 4000000 in
theorem p_X8_play_B24 {l : Launch} {Post : Option Value → am_W → Prop} {V : am_VT} (hV : am_B l RX8 false 11 (am_cdT' tX8_play) (am_rfL rfX8) (some .int) Post 36 V) (n : Nat) (res : (Int32 × am_M)) (hP : Post (some (.int res.1)) (wX8 res.2)) (kont24 : am_M → Int32 → Int64 → Int32 → Option (Int32 × am_M)) (hk24 : ∀ (σ : am_M) (l1 : Int32) (l2 : Int64) (l4 : Int32), kont24 σ l1 l2 l4 = some res → V (wX8 σ) 24 [(0, .ref 0), (1, .int l1), (2, .long l2), (4, .int l4)] []) (σ : am_M) (l1 : Int32) (l2 : Int64) (l4 : Int32) (h : X8_play_B24 n kont24 σ l1 l2 l4 = some res) : V (wX8 σ) 24 [(0, .ref 0), (1, .int l1), (2, .long l2), (4, .int l4)] [] := by
  unfold X8_play_B24 at h
  by_cases c1 : l1 ≤ l4
  · rw [if_pos c1] at h
    refine hV.run 6 [1] (ws' := wX8 σ) (pc' := 62) (ls' := [(0, .ref 0), (1, .int l1), (2, .long l2), (4, .int l4)]) (st' := [.long l2, .int l1, .ref 0]) (ps := [l1 ≤ l4]) rfl ⟨c1, trivial⟩ ?_
    obtain ⟨q2, hq2, h⟩ := am_bind h
    refine hV.cOi (as := [.int l1, .long l2]) (rest := []) (st := [.long l2, .int l1, .ref 0]) (ws2 := wX8 q2.2) (pc2 := 65) kX8_500 (c_X8_run l n σ l1 l2 q2 hq2) rfl rfl rfl rfl rfl rfl rfl rfl rfl ?_
    refine hV.run 3 [] (ws' := wX8 q2.2) (pc' := 70) (ls' := [(5, .int 0), (4, .int q2.1), (0, .ref 0), (1, .int l1), (2, .long l2)]) (st' := []) (ps := []) rfl trivial ?_
    refine hV.pick [2, 1, 0] (ls' := [(0, .ref 0), (4, .int q2.1), (5, .int 0)]) rfl ?_
    exact p_X8_play_L70 hV n res hP n q2.2 q2.1 0 h
  · rw [if_neg c1] at h
    by_cases c3 : (((am_lshr l2 (4 * l4)).toInt32) &&& 15) < (σ 0 3)
    · rw [if_pos c3] at h
      refine hV.run 16 [0, 1] (ws' := wX8 σ) (pc' := 24) (ls' := [(4, .int (l4 + 1)), (0, .ref 0), (1, .int l1), (2, .long l2)]) (st' := []) (ps := [¬ l1 ≤ l4, (((am_lshr l2 (4 * l4)).toInt32) &&& 15) < (σ 0 3)]) rfl ⟨c1, c3, trivial⟩ ?_
      refine hV.pick [1, 2, 3, 0] (ls' := [(0, .ref 0), (1, .int l1), (2, .long l2), (4, .int (l4 + 1))]) rfl ?_
      exact hk24 σ l1 l2 (l4 + 1) h
    · rw [if_neg c3] at h
      refine hV.run 16 [0, 0] (ws' := wX8 σ) (pc' := 49) (ls' := [(0, .ref 0), (1, .int l1), (2, .long l2), (4, .int l4)]) (st' := [.int 1, .ref 0]) (ps := [¬ l1 ≤ l4, ¬ (((am_lshr l2 (4 * l4)).toInt32) &&& 15) < (σ 0 3)]) rfl ⟨c1, c3, trivial⟩ ?_
      obtain ⟨q4, hq4, h⟩ := am_bind h
      refine hV.cOi (as := [.int 1]) (rest := []) (st := [.int 1, .ref 0]) (ws2 := wX8 q4.2) (pc2 := 52) kX8_313 (c_X8_fail l σ 1 q4 hq4) rfl rfl rfl rfl rfl rfl rfl rfl rfl ?_
      cases h
      exact hV.ri rfl rfl rfl hP
theorem p_X8_play_L24 {l : Launch} {Post : Option Value → am_W → Prop} {V : am_VT} (hV : am_B l RX8 false 11 (am_cdT' tX8_play) (am_rfL rfX8) (some .int) Post 36 V) (n : Nat) (res : (Int32 × am_M)) (hP : Post (some (.int res.1)) (wX8 res.2)) : ∀ (k : Nat) (σ : am_M) (l1 : Int32) (l2 : Int64) (l4 : Int32) (h : X8_play_L24 n k σ l1 l2 l4 = some res), V (wX8 σ) 24 [(0, .ref 0), (1, .int l1), (2, .long l2), (4, .int l4)] [] := by
  intro k
  induction k with
  | zero => intro σ l1 l2 l4 h; cases h
  | succ k ih => intro σ l1 l2 l4 h; exact p_X8_play_B24 hV n res hP _ ih σ l1 l2 l4 h
def X8_play (n : Nat) (σ : am_M) (a1 : Int32) (a2 : Int64) : Option (Int32 × am_M) := if (X8_isIn a1 0 16) = true then (X8_play_L24 n n (sC σ 0 (am_u (σ 0) 2 0)) a1 a2 0) else (X8_fail (sC σ 0 (am_u (σ 0) 2 0)) 1).bind (fun q2 => some (q2.1, q2.2))
set_option maxRecDepth 100000 in
set_option maxHeartbeats 4000000 in
theorem c_X8_play (l : Launch) (n : Nat) (σ : am_M) (a1 : Int32) (a2 : Int64) (res : (Int32 × am_M)) (h : X8_play n σ a1 a2 = some res) : am_Con l yX8_play cX8_play 6 (some .int) 11 [.ref 0, .int a1, .long a2] (wX8 σ) (fun (r : Option Value) (w : am_W) => r = (some (.int res.1)) ∧ w = (wX8 res.2)) := by
  refine am_metn (n0 := 36) (own := RX8) (cd := am_cdT' tX8_play) (rf := am_rfL rfX8) (ini := false) rfl (by decide +kernel) rfl (by decide) dX8_play rfX8_ok (Nat.le_of_ble_eq_true rfl) ?_
  intro V hV
  have hP : (fun (r : Option Value) (w : am_W) => r = (some (.int res.1)) ∧ w = (wX8 res.2)) (some (.int res.1)) (wX8 res.2) := ⟨rfl, rfl⟩
  show V (wX8 σ) 0 [(0, .ref 0), (1, .int a1), (2, .long a2)] []
  unfold X8_play at h
  refine hV.run 6 [] (ws' := wX8 (sC σ 0 (am_u (σ 0) 2 0))) (pc' := 9) (ls' := [(0, .ref 0), (1, .int a1), (2, .long a2)]) (st' := [.int 16, .int 0, .int a1]) (ps := []) rfl trivial ?_
  refine hV.cSi (as := [.int a1, .int 0, .int 16]) (js := []) (rest := []) (st := [.int 16, .int 0, .int a1]) (ws2 := wX8 (sC σ 0 (am_u (σ 0) 2 0))) (pc2 := 12) kX8_276 (c_X8_isIn l a1 0 16) rfl rfl rfl rfl rfl rfl rfl rfl rfl rfl ?_
  by_cases c1 : (X8_isIn a1 0 16) = true
  · rw [if_pos c1] at h
    refine hV.run 3 [1] (ws' := wX8 (sC σ 0 (am_u (σ 0) 2 0))) (pc' := 24) (ls' := [(4, .int 0), (0, .ref 0), (1, .int a1), (2, .long a2)]) (st' := []) (ps := [¬ (b2i (X8_isIn a1 0 16)) = 0]) rfl ⟨(b2i_t c1), trivial⟩ ?_
    refine hV.pick [1, 2, 3, 0] (ls' := [(0, .ref 0), (1, .int a1), (2, .long a2), (4, .int 0)]) rfl ?_
    exact p_X8_play_L24 hV n res hP n (sC σ 0 (am_u (σ 0) 2 0)) a1 a2 0 h
  · rw [if_neg c1] at h
    refine hV.run 3 [0] (ws' := wX8 (sC σ 0 (am_u (σ 0) 2 0))) (pc' := 17) (ls' := [(0, .ref 0), (1, .int a1), (2, .long a2)]) (st' := [.int 1, .ref 0]) (ps := [(b2i (X8_isIn a1 0 16)) = 0]) rfl ⟨(b2i_f c1), trivial⟩ ?_
    obtain ⟨q2, hq2, h⟩ := am_bind h
    refine hV.cOi (as := [.int 1]) (rest := []) (st := [.int 1, .ref 0]) (ws2 := wX8 q2.2) (pc2 := 20) kX8_313 (c_X8_fail l (sC σ 0 (am_u (σ 0) 2 0)) 1 q2 hq2) rfl rfl rfl rfl rfl rfl rfl rfl rfl ?_
    cases h
    exact hV.ri rfl rfl rfl hP

def X8_hasPlay (σ : am_M) : Bool := if (σ 0 57) = (σ 0 3) then (if (σ 0 58) = (σ 0 8) then (true) else (false)) else (false)
set_option maxRecDepth 100000 in
set_option maxHeartbeats 4000000 in
theorem c_X8_hasPlay (l : Launch) (σ : am_M) : am_Con l yX8_hasPlay cX8_hasPlay 1 (some .boolean) 1 [.ref 0] (wX8 σ) (fun (r : Option Value) (w : am_W) => r = (some (.int (b2i (X8_hasPlay σ)))) ∧ w = (wX8 σ)) := by
  obtain ⟨res, h⟩ : ∃ res, (X8_hasPlay σ) = res := ⟨_, rfl⟩
  rw [h]
  refine am_metn (n0 := 36) (own := RX8) (cd := am_cdT' tX8_hasPlay) (rf := am_rfL rfX8) (ini := false) rfl (by decide +kernel) rfl (by decide) dX8_hasPlay rfX8_ok (Nat.le_of_ble_eq_true rfl) ?_
  intro V hV
  have hP : (fun (r : Option Value) (w : am_W) => r = (some (.int (b2i res))) ∧ w = (wX8 σ)) (some (.int (b2i res))) (wX8 σ) := ⟨rfl, rfl⟩
  show V (wX8 σ) 0 [(0, .ref 0)] []
  unfold X8_hasPlay at h
  by_cases c1 : (σ 0 57) = (σ 0 3)
  · rw [if_pos c1] at h
    by_cases c2 : (σ 0 58) = (σ 0 8)
    · rw [if_pos c2] at h
      refine hV.run 12 [0, 0] (ws' := wX8 σ) (pc' := 27) (ls' := [(0, .ref 0)]) (st' := [.int 1]) (ps := [(σ 0 57) = (σ 0 3), (σ 0 58) = (σ 0 8)]) rfl ⟨c1, c2, trivial⟩ ?_
      subst h
      exact hV.rz rfl rfl rfl (Or.inr rfl) hP
    · rw [if_neg c2] at h
      refine hV.run 11 [0, 1] (ws' := wX8 σ) (pc' := 27) (ls' := [(0, .ref 0)]) (st' := [.int 0]) (ps := [(σ 0 57) = (σ 0 3), ¬ (σ 0 58) = (σ 0 8)]) rfl ⟨c1, c2, trivial⟩ ?_
      subst h
      exact hV.rz rfl rfl rfl (Or.inl rfl) hP
  · rw [if_neg c1] at h
    refine hV.run 6 [1] (ws' := wX8 σ) (pc' := 27) (ls' := [(0, .ref 0)]) (st' := [.int 0]) (ps := [¬ (σ 0 57) = (σ 0 3)]) rfl ⟨c1, trivial⟩ ?_
    subst h
    exact hV.rz rfl rfl rfl (Or.inl rfl) hP

def X8_of_J41 (σ : am_M) : Option (Int32 × am_M) := (X8_fail σ 1).bind (fun q1 => some (q1.1, q1.2))
set_option maxRecDepth 100000 in
set_option maxHeartbeats 4000000 in
theorem p_X8_of_J41 {l : Launch} {Post : Option Value → am_W → Prop} {V : am_VT} (hV : am_B l RX8 false 3 (am_cdT' tX8_of) (am_rfL rfX8) (some .int) Post 36 V) (res : (Int32 × am_M)) (hP : Post (some (.int res.1)) (wX8 res.2)) (σ : am_M) (h : X8_of_J41 σ = some res) : V (wX8 σ) 41 [(0, .ref 0)] [] := by
  unfold X8_of_J41 at h
  refine hV.run 2 [] (ws' := wX8 σ) (pc' := 43) (ls' := [(0, .ref 0)]) (st' := [.int 1, .ref 0]) (ps := []) rfl trivial ?_
  obtain ⟨q1, hq1, h⟩ := am_bind h
  refine hV.cOi (as := [.int 1]) (rest := []) (st := [.int 1, .ref 0]) (ws2 := wX8 q1.2) (pc2 := 46) kX8_313 (c_X8_fail l σ 1 q1 hq1) rfl rfl rfl rfl rfl rfl rfl rfl rfl ?_
  cases h
  exact hV.ri rfl rfl rfl hP
def X8_of_J34 (σ : am_M) (l1 : Int32) (l2 : Int32) : Option (Int32 × am_M) := if (X8_hasPlay σ) = true then (if l2 = 0 then (if l1 < 0 ∨ 8 ≤ l1.toNatClampNeg then none else (some ((σ 33 l1.toNatClampNeg), σ))) else (if l2 = 1 then (if l1 < 0 ∨ 8 ≤ l1.toNatClampNeg then none else (some ((σ 34 l1.toNatClampNeg), σ))) else (if l2 = 2 then (if ((8 * l1) + 0) < 0 ∨ 1985 ≤ ((8 * l1) + 0).toNatClampNeg then none else (some ((σ 28 ((8 * l1) + 0).toNatClampNeg), σ))) else (if l2 = 3 then (if ((8 * l1) + 7) < 0 ∨ 1985 ≤ ((8 * l1) + 7).toNatClampNeg then none else (some ((σ 28 ((8 * l1) + 7).toNatClampNeg), σ))) else (if l2 = 4 then (if ((8 * l1) + 6) < 0 ∨ 1985 ≤ ((8 * l1) + 6).toNatClampNeg then none else (some ((σ 28 ((8 * l1) + 6).toNatClampNeg), σ))) else (if l2 = 5 then (if l1 < 0 ∨ 8 ≤ l1.toNatClampNeg then none else (some ((σ 31 l1.toNatClampNeg), σ))) else (if l2 = 6 then (if ((8 * l1) + 1) < 0 ∨ 1985 ≤ ((8 * l1) + 1).toNatClampNeg then none else (some ((σ 28 ((8 * l1) + 1).toNatClampNeg), σ))) else (if ((((8 * l1) + 2) + l2) - 8) < 0 ∨ 1985 ≤ ((((8 * l1) + 2) + l2) - 8).toNatClampNeg then none else (some ((σ 28 ((((8 * l1) + 2) + l2) - 8).toNatClampNeg), σ)))))))))) else (X8_of_J41 σ)
set_option maxRecDepth 100000 in
set_option maxHeartbeats 4000000 in
theorem p_X8_of_J34 {l : Launch} {Post : Option Value → am_W → Prop} {V : am_VT} (hV : am_B l RX8 false 3 (am_cdT' tX8_of) (am_rfL rfX8) (some .int) Post 36 V) (res : (Int32 × am_M)) (hP : Post (some (.int res.1)) (wX8 res.2)) (σ : am_M) (l1 : Int32) (l2 : Int32) (h : X8_of_J34 σ l1 l2 = some res) : V (wX8 σ) 34 [(0, .ref 0), (1, .int l1), (2, .int l2)] [] := by
  unfold X8_of_J34 at h
  refine hV.run 1 [] (ws' := wX8 σ) (pc' := 35) (ls' := [(0, .ref 0), (1, .int l1), (2, .int l2)]) (st' := [.ref 0]) (ps := []) rfl trivial ?_
  refine hV.cOi (as := []) (rest := []) (st := [.ref 0]) (ws2 := wX8 σ) (pc2 := 38) kX8_516 (c_X8_hasPlay l σ) rfl rfl rfl rfl rfl rfl rfl rfl rfl ?_
  by_cases c1 : (X8_hasPlay σ) = true
  · rw [if_pos c1] at h
    by_cases c2 : l2 = 0
    · rw [if_pos c2] at h
      by_cases g3 : l1 < 0 ∨ 8 ≤ l1.toNatClampNeg
      · rw [if_pos g3] at h; cases h
      rw [if_neg g3] at h
      refine hV.run 11 [1, 1] (ws' := wX8 σ) (pc' := 102) (ls' := [(3, .int (8 * l1)), (0, .ref 0), (1, .int l1), (2, .int l2)]) (st' := [.int (σ 33 l1.toNatClampNeg)]) (ps := [¬ (b2i (X8_hasPlay σ)) = 0, l2.toInt = 0 + ((0 : Nat) : Int), 0 < 7, ¬ 6 < l2.toInt, vp_in l1 8]) rfl ⟨(b2i_t c1), (by rw [c2]; decide), (by decide), (by rw [c2]; decide), g3, trivial⟩ ?_
      cases h
      exact hV.ri rfl rfl rfl hP
    · rw [if_neg c2] at h
      by_cases c4 : l2 = 1
      · rw [if_pos c4] at h
        by_cases g5 : l1 < 0 ∨ 8 ≤ l1.toNatClampNeg
        · rw [if_pos g5] at h; cases h
        rw [if_neg g5] at h
        refine hV.run 11 [1, 2] (ws' := wX8 σ) (pc' := 109) (ls' := [(3, .int (8 * l1)), (0, .ref 0), (1, .int l1), (2, .int l2)]) (st' := [.int (σ 34 l1.toNatClampNeg)]) (ps := [¬ (b2i (X8_hasPlay σ)) = 0, l2.toInt = 0 + ((1 : Nat) : Int), 1 < 7, ¬ 6 < l2.toInt, vp_in l1 8]) rfl ⟨(b2i_t c1), (by rw [c4]; decide), (by decide), (by rw [c4]; decide), g5, trivial⟩ ?_
        cases h
        exact hV.ri rfl rfl rfl hP
      · rw [if_neg c4] at h
        by_cases c6 : l2 = 2
        · rw [if_pos c6] at h
          by_cases g7 : ((8 * l1) + 0) < 0 ∨ 1985 ≤ ((8 * l1) + 0).toNatClampNeg
          · rw [if_pos g7] at h; cases h
          rw [if_neg g7] at h
          refine hV.run 13 [1, 3] (ws' := wX8 σ) (pc' := 118) (ls' := [(3, .int (8 * l1)), (0, .ref 0), (1, .int l1), (2, .int l2)]) (st' := [.int (σ 28 ((8 * l1) + 0).toNatClampNeg)]) (ps := [¬ (b2i (X8_hasPlay σ)) = 0, l2.toInt = 0 + ((2 : Nat) : Int), 2 < 7, ¬ 6 < l2.toInt, vp_in ((8 * l1) + 0) 1985]) rfl ⟨(b2i_t c1), (by rw [c6]; decide), (by decide), (by rw [c6]; decide), g7, trivial⟩ ?_
          cases h
          exact hV.ri rfl rfl rfl hP
        · rw [if_neg c6] at h
          by_cases c8 : l2 = 3
          · rw [if_pos c8] at h
            by_cases g9 : ((8 * l1) + 7) < 0 ∨ 1985 ≤ ((8 * l1) + 7).toNatClampNeg
            · rw [if_pos g9] at h; cases h
            rw [if_neg g9] at h
            refine hV.run 13 [1, 4] (ws' := wX8 σ) (pc' := 128) (ls' := [(3, .int (8 * l1)), (0, .ref 0), (1, .int l1), (2, .int l2)]) (st' := [.int (σ 28 ((8 * l1) + 7).toNatClampNeg)]) (ps := [¬ (b2i (X8_hasPlay σ)) = 0, l2.toInt = 0 + ((3 : Nat) : Int), 3 < 7, ¬ 6 < l2.toInt, vp_in ((8 * l1) + 7) 1985]) rfl ⟨(b2i_t c1), (by rw [c8]; decide), (by decide), (by rw [c8]; decide), g9, trivial⟩ ?_
            cases h
            exact hV.ri rfl rfl rfl hP
          · rw [if_neg c8] at h
            by_cases c10 : l2 = 4
            · rw [if_pos c10] at h
              by_cases g11 : ((8 * l1) + 6) < 0 ∨ 1985 ≤ ((8 * l1) + 6).toNatClampNeg
              · rw [if_pos g11] at h; cases h
              rw [if_neg g11] at h
              refine hV.run 13 [1, 5] (ws' := wX8 σ) (pc' := 138) (ls' := [(3, .int (8 * l1)), (0, .ref 0), (1, .int l1), (2, .int l2)]) (st' := [.int (σ 28 ((8 * l1) + 6).toNatClampNeg)]) (ps := [¬ (b2i (X8_hasPlay σ)) = 0, l2.toInt = 0 + ((4 : Nat) : Int), 4 < 7, ¬ 6 < l2.toInt, vp_in ((8 * l1) + 6) 1985]) rfl ⟨(b2i_t c1), (by rw [c10]; decide), (by decide), (by rw [c10]; decide), g11, trivial⟩ ?_
              cases h
              exact hV.ri rfl rfl rfl hP
            · rw [if_neg c10] at h
              by_cases c12 : l2 = 5
              · rw [if_pos c12] at h
                by_cases g13 : l1 < 0 ∨ 8 ≤ l1.toNatClampNeg
                · rw [if_pos g13] at h; cases h
                rw [if_neg g13] at h
                refine hV.run 11 [1, 6] (ws' := wX8 σ) (pc' := 145) (ls' := [(3, .int (8 * l1)), (0, .ref 0), (1, .int l1), (2, .int l2)]) (st' := [.int (σ 31 l1.toNatClampNeg)]) (ps := [¬ (b2i (X8_hasPlay σ)) = 0, l2.toInt = 0 + ((5 : Nat) : Int), 5 < 7, ¬ 6 < l2.toInt, vp_in l1 8]) rfl ⟨(b2i_t c1), (by rw [c12]; decide), (by decide), (by rw [c12]; decide), g13, trivial⟩ ?_
                cases h
                exact hV.ri rfl rfl rfl hP
              · rw [if_neg c12] at h
                by_cases c14 : l2 = 6
                · rw [if_pos c14] at h
                  by_cases g15 : ((8 * l1) + 1) < 0 ∨ 1985 ≤ ((8 * l1) + 1).toNatClampNeg
                  · rw [if_pos g15] at h; cases h
                  rw [if_neg g15] at h
                  refine hV.run 13 [1, 7] (ws' := wX8 σ) (pc' := 154) (ls' := [(3, .int (8 * l1)), (0, .ref 0), (1, .int l1), (2, .int l2)]) (st' := [.int (σ 28 ((8 * l1) + 1).toNatClampNeg)]) (ps := [¬ (b2i (X8_hasPlay σ)) = 0, l2.toInt = 0 + ((6 : Nat) : Int), 6 < 7, ¬ 6 < l2.toInt, vp_in ((8 * l1) + 1) 1985]) rfl ⟨(b2i_t c1), (by rw [c14]; decide), (by decide), (by rw [c14]; decide), g15, trivial⟩ ?_
                  cases h
                  exact hV.ri rfl rfl rfl hP
                · rw [if_neg c14] at h
                  by_cases g16 : ((((8 * l1) + 2) + l2) - 8) < 0 ∨ 1985 ≤ ((((8 * l1) + 2) + l2) - 8).toNatClampNeg
                  · rw [if_pos g16] at h; cases h
                  rw [if_neg g16] at h
                  refine hV.run 17 [1, 0] (ws' := wX8 σ) (pc' := 168) (ls' := [(3, .int (8 * l1)), (0, .ref 0), (1, .int l1), (2, .int l2)]) (st' := [.int (σ 28 ((((8 * l1) + 2) + l2) - 8).toNatClampNeg)]) (ps := [¬ (b2i (X8_hasPlay σ)) = 0, l2.toInt < 0 ∨ 6 < l2.toInt, vp_in ((((8 * l1) + 2) + l2) - 8) 1985]) rfl ⟨(b2i_t c1), (by have c2_ := am_ne c2 (by decide : (0 : Int32).toInt = 0); have c4_ := am_ne c4 (by decide : (1 : Int32).toInt = 1); have c6_ := am_ne c6 (by decide : (2 : Int32).toInt = 2); have c8_ := am_ne c8 (by decide : (3 : Int32).toInt = 3); have c10_ := am_ne c10 (by decide : (4 : Int32).toInt = 4); have c12_ := am_ne c12 (by decide : (5 : Int32).toInt = 5); have c14_ := am_ne c14 (by decide : (6 : Int32).toInt = 6); omega), g16, trivial⟩ ?_
                  cases h
                  exact hV.ri rfl rfl rfl hP
  · rw [if_neg c1] at h
    refine hV.run 1 [0] (ws' := wX8 σ) (pc' := 41) (ls' := [(0, .ref 0), (1, .int l1), (2, .int l2)]) (st' := []) (ps := [(b2i (X8_hasPlay σ)) = 0]) rfl ⟨(b2i_f c1), trivial⟩ ?_
    refine hV.pick [0] (ls' := [(0, .ref 0)]) rfl ?_
    exact p_X8_of_J41 hV res hP σ h
def X8_of (σ : am_M) (a1 : Int32) (a2 : Int32) : Option (Int32 × am_M) := if (X8_isHand (sC σ 0 (am_u (σ 0) 2 0)) a1) = true then (if (X8_isIn a2 0 6) = true then (X8_of_J34 (sC σ 0 (am_u (σ 0) 2 0)) a1 a2) else (if (X8_isIn a2 8 11) = true then (X8_of_J34 (sC σ 0 (am_u (σ 0) 2 0)) a1 a2) else (X8_of_J41 (sC σ 0 (am_u (σ 0) 2 0))))) else (X8_of_J41 (sC σ 0 (am_u (σ 0) 2 0)))
set_option maxRecDepth 100000 in
set_option maxHeartbeats 4000000 in
theorem c_X8_of (l : Launch) (σ : am_M) (a1 : Int32) (a2 : Int32) (res : (Int32 × am_M)) (h : X8_of σ a1 a2 = some res) : am_Con l yX8_of cX8_of 4 (some .int) 3 [.ref 0, .int a1, .int a2] (wX8 σ) (fun (r : Option Value) (w : am_W) => r = (some (.int res.1)) ∧ w = (wX8 res.2)) := by
  refine am_metn (n0 := 36) (own := RX8) (cd := am_cdT' tX8_of) (rf := am_rfL rfX8) (ini := false) rfl (by decide +kernel) rfl (by decide) dX8_of rfX8_ok (Nat.le_of_ble_eq_true rfl) ?_
  intro V hV
  have hP : (fun (r : Option Value) (w : am_W) => r = (some (.int res.1)) ∧ w = (wX8 res.2)) (some (.int res.1)) (wX8 res.2) := ⟨rfl, rfl⟩
  show V (wX8 σ) 0 [(0, .ref 0), (1, .int a1), (2, .int a2)] []
  unfold X8_of at h
  refine hV.run 5 [] (ws' := wX8 (sC σ 0 (am_u (σ 0) 2 0))) (pc' := 7) (ls' := [(0, .ref 0), (1, .int a1), (2, .int a2)]) (st' := [.int a1, .ref 0]) (ps := []) rfl trivial ?_
  refine hV.cOi (as := [.int a1]) (rest := []) (st := [.int a1, .ref 0]) (ws2 := wX8 (sC σ 0 (am_u (σ 0) 2 0))) (pc2 := 10) kX8_485 (c_X8_isHand l (sC σ 0 (am_u (σ 0) 2 0)) a1) rfl rfl rfl rfl rfl rfl rfl rfl rfl ?_
  by_cases c1 : (X8_isHand (sC σ 0 (am_u (σ 0) 2 0)) a1) = true
  · rw [if_pos c1] at h
    refine hV.run 4 [0] (ws' := wX8 (sC σ 0 (am_u (σ 0) 2 0))) (pc' := 17) (ls' := [(0, .ref 0), (1, .int a1), (2, .int a2)]) (st' := [.int 6, .int 0, .int a2]) (ps := [¬ (b2i (X8_isHand (sC σ 0 (am_u (σ 0) 2 0)) a1)) = 0]) rfl ⟨(b2i_t c1), trivial⟩ ?_
    refine hV.cSi (as := [.int a2, .int 0, .int 6]) (js := []) (rest := []) (st := [.int 6, .int 0, .int a2]) (ws2 := wX8 (sC σ 0 (am_u (σ 0) 2 0))) (pc2 := 20) kX8_276 (c_X8_isIn l a2 0 6) rfl rfl rfl rfl rfl rfl rfl rfl rfl rfl ?_
    by_cases c2 : (X8_isIn a2 0 6) = true
    · rw [if_pos c2] at h
      refine hV.run 1 [1] (ws' := wX8 (sC σ 0 (am_u (σ 0) 2 0))) (pc' := 34) (ls' := [(0, .ref 0), (1, .int a1), (2, .int a2)]) (st' := []) (ps := [¬ (b2i (X8_isIn a2 0 6)) = 0]) rfl ⟨(b2i_t c2), trivial⟩ ?_
      exact p_X8_of_J34 hV res hP (sC σ 0 (am_u (σ 0) 2 0)) a1 a2 h
    · rw [if_neg c2] at h
      refine hV.run 4 [0] (ws' := wX8 (sC σ 0 (am_u (σ 0) 2 0))) (pc' := 28) (ls' := [(0, .ref 0), (1, .int a1), (2, .int a2)]) (st' := [.int 11, .int 8, .int a2]) (ps := [(b2i (X8_isIn a2 0 6)) = 0]) rfl ⟨(b2i_f c2), trivial⟩ ?_
      refine hV.cSi (as := [.int a2, .int 8, .int 11]) (js := []) (rest := []) (st := [.int 11, .int 8, .int a2]) (ws2 := wX8 (sC σ 0 (am_u (σ 0) 2 0))) (pc2 := 31) kX8_276 (c_X8_isIn l a2 8 11) rfl rfl rfl rfl rfl rfl rfl rfl rfl rfl ?_
      by_cases c3 : (X8_isIn a2 8 11) = true
      · rw [if_pos c3] at h
        refine hV.run 1 [0] (ws' := wX8 (sC σ 0 (am_u (σ 0) 2 0))) (pc' := 34) (ls' := [(0, .ref 0), (1, .int a1), (2, .int a2)]) (st' := []) (ps := [¬ (b2i (X8_isIn a2 8 11)) = 0]) rfl ⟨(b2i_t c3), trivial⟩ ?_
        exact p_X8_of_J34 hV res hP (sC σ 0 (am_u (σ 0) 2 0)) a1 a2 h
      · rw [if_neg c3] at h
        refine hV.run 1 [1] (ws' := wX8 (sC σ 0 (am_u (σ 0) 2 0))) (pc' := 41) (ls' := [(0, .ref 0), (1, .int a1), (2, .int a2)]) (st' := []) (ps := [(b2i (X8_isIn a2 8 11)) = 0]) rfl ⟨(b2i_f c3), trivial⟩ ?_
        refine hV.pick [0] (ls' := [(0, .ref 0)]) rfl ?_
        exact p_X8_of_J41 hV res hP (sC σ 0 (am_u (σ 0) 2 0)) h
  · rw [if_neg c1] at h
    refine hV.run 1 [1] (ws' := wX8 (sC σ 0 (am_u (σ 0) 2 0))) (pc' := 41) (ls' := [(0, .ref 0), (1, .int a1), (2, .int a2)]) (st' := []) (ps := [(b2i (X8_isHand (sC σ 0 (am_u (σ 0) 2 0)) a1)) = 0]) rfl ⟨(b2i_f c1), trivial⟩ ?_
    refine hV.pick [0] (ls' := [(0, .ref 0)]) rfl ?_
    exact p_X8_of_J41 hV res hP (sC σ 0 (am_u (σ 0) 2 0)) h

