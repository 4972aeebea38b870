def X8_ending_J59 (n : Nat) (σ : am_M) : Option (Int32 × am_M) := (X8_fail σ 1).bind (fun q1 => some (q1.1, q1.2))
set_option maxRecDepth 100000 in
set_option maxHeartbeats 4000000 in
theorem p_X8_ending_J59 {l : Launch} {Post : Option Value → am_W → Prop} {V : am_VT} (hV : am_B l RX8 false 13 (am_cdT' tX8_ending) (am_rfL rfX8) (some .int) Post 36 V) (n : Nat) (res : (Int32 × am_M)) (hP : Post (some (.int res.1)) (wX8 res.2)) (σ : am_M) (h : X8_ending_J59 n σ = some res) : V (wX8 σ) 59 [(0, .ref 0)] [] := by
  unfold X8_ending_J59 at h
  refine hV.run 2 [] (ws' := wX8 σ) (pc' := 61) (ls' := [(0, .ref 0)]) (st' := [.int 1, .ref 0]) (ps := []) rfl trivial ?_
  obtain ⟨q1, hq1, h⟩ := am_bind h
  refine hV.cOi (as := [.int 1]) (rest := []) (st := [.int 1, .ref 0]) (ws2 := wX8 q1.2) (pc2 := 64) kX8_313 (c_X8_fail l σ 1 q1 hq1) rfl rfl rfl rfl rfl rfl rfl rfl rfl ?_
  cases h
  exact hV.ri rfl rfl rfl hP
def X8_ending_J33 (n : Nat) (σ : am_M) (l1 : Int32) (l2 : Int32) (s0 : Int32) : Option (Int32 × am_M) := (X8_tell n σ).bind (fun q1 => if q1.1 = true then (if (X8_isIn l1 0 ((q1.2 0 51) - 1)) = true then (if s0 = 0 then (X8_ending_J59 n q1.2) else (if l2 = 0 then (if (11 * l1) < 0 ∨ 2211 ≤ (11 * l1).toNatClampNeg then none else (some (((q1.2 25) (11 * l1).toNatClampNeg), q1.2))) else (if l2 = 1 then (if ((11 * l1) + 9) < 0 ∨ 2211 ≤ ((11 * l1) + 9).toNatClampNeg then none else (some (((q1.2 25) ((11 * l1) + 9).toNatClampNeg), q1.2))) else (if l2 = 2 then (if ((11 * l1) + 10) < 0 ∨ 2211 ≤ ((11 * l1) + 10).toNatClampNeg then none else (some (((q1.2 25) ((11 * l1) + 10).toNatClampNeg), q1.2))) else (if (((11 * l1) + l2) - 3) < 0 ∨ 2211 ≤ (((11 * l1) + l2) - 3).toNatClampNeg then none else (some (((q1.2 25) (((11 * l1) + l2) - 3).toNatClampNeg), q1.2))))))) else (X8_ending_J59 n q1.2)) else (X8_ending_J59 n q1.2))
set_option maxRecDepth 100000 in
set_option maxHeartbeats 4000000 in
theorem p_X8_ending_J33 {l : Launch} {Post : Option Value → am_W → Prop} {V : am_VT} (hV : am_B l RX8 false 13 (am_cdT' tX8_ending) (am_rfL rfX8) (some .int) Post 36 V) (n : Nat) (res : (Int32 × am_M)) (hP : Post (some (.int res.1)) (wX8 res.2)) (σ : am_M) (l1 : Int32) (l2 : Int32) (s0 : Int32) (h : X8_ending_J33 n σ l1 l2 s0 = some res) : V (wX8 σ) 33 [(0, .ref 0), (1, .int l1), (2, .int l2)] [.int s0] := by
  unfold X8_ending_J33 at h
  refine hV.run 2 [] (ws' := wX8 σ) (pc' := 35) (ls' := [(3, .int s0), (0, .ref 0), (1, .int l1), (2, .int l2)]) (st' := [.ref 0]) (ps := []) rfl trivial ?_
  obtain ⟨q1, hq1, h⟩ := am_bind h
  refine hV.cOi (as := []) (rest := []) (st := [.ref 0]) (ws2 := wX8 q1.2) (pc2 := 38) kX8_483 (c_X8_tell l n σ q1 hq1) rfl rfl rfl rfl rfl rfl rfl rfl rfl ?_
  by_cases c2 : q1.1 = true
  · rw [if_pos c2] at h
    refine hV.run 7 [0] (ws' := wX8 q1.2) (pc' := 49) (ls' := [(3, .int s0), (0, .ref 0), (1, .int l1), (2, .int l2)]) (st' := [.int ((q1.2 0 51) - 1), .int 0, .int l1]) (ps := [¬ (b2i q1.1) = 0]) rfl ⟨(b2i_t c2), trivial⟩ ?_
    refine hV.cSi (as := [.int l1, .int 0, .int ((q1.2 0 51) - 1)]) (js := []) (rest := []) (st := [.int ((q1.2 0 51) - 1), .int 0, .int l1]) (ws2 := wX8 q1.2) (pc2 := 52) kX8_276 (c_X8_isIn l l1 0 ((q1.2 0 51) - 1)) rfl rfl rfl rfl rfl rfl rfl rfl rfl rfl ?_
    by_cases c3 : (X8_isIn l1 0 ((q1.2 0 51) - 1)) = true
    · rw [if_pos c3] at h
      by_cases c4 : s0 = 0
      · rw [if_pos c4] at h
        refine hV.run 3 [0, 0] (ws' := wX8 q1.2) (pc' := 59) (ls' := [(3, .int s0), (0, .ref 0), (1, .int l1), (2, .int l2)]) (st' := []) (ps := [¬ (b2i (X8_isIn l1 0 ((q1.2 0 51) - 1))) = 0, s0 = 0]) rfl ⟨(b2i_t c3), c4, trivial⟩ ?_
        refine hV.pick [1] (ls' := [(0, .ref 0)]) rfl ?_
        exact p_X8_ending_J59 hV n res hP q1.2 h
      · rw [if_neg c4] at h
        by_cases c5 : l2 = 0
        · rw [if_pos c5] at h
          by_cases g6 : (11 * l1) < 0 ∨ 2211 ≤ (11 * l1).toNatClampNeg
          · rw [if_pos g6] at h; cases h
          rw [if_neg g6] at h
          refine hV.run 14 [0, 1, 0] (ws' := wX8 q1.2) (pc' := 132) (ls' := [(4, .int (11 * l1)), (3, .int s0), (0, .ref 0), (1, .int l1), (2, .int l2)]) (st' := [.int ((q1.2 25) (11 * l1).toNatClampNeg)]) (ps := [¬ (b2i (X8_isIn l1 0 ((q1.2 0 51) - 1))) = 0, ¬ s0 = 0, l2 = 0, vp_in (11 * l1) 2211]) rfl ⟨(b2i_t c3), c4, c5, g6, trivial⟩ ?_
          cases h
          exact hV.ri rfl rfl rfl hP
        · rw [if_neg c5] at h
          by_cases c7 : l2 = 1
          · rw [if_pos c7] at h
            by_cases g8 : ((11 * l1) + 9) < 0 ∨ 2211 ≤ ((11 * l1) + 9).toNatClampNeg
            · rw [if_pos g8] at h; cases h
            rw [if_neg g8] at h
            refine hV.run 19 [0, 1, 1, 0] (ws' := wX8 q1.2) (pc' := 132) (ls' := [(4, .int (11 * l1)), (3, .int s0), (0, .ref 0), (1, .int l1), (2, .int l2)]) (st' := [.int ((q1.2 25) ((11 * l1) + 9).toNatClampNeg)]) (ps := [¬ (b2i (X8_isIn l1 0 ((q1.2 0 51) - 1))) = 0, ¬ s0 = 0, ¬ l2 = 0, l2 = 1, vp_in ((11 * l1) + 9) 2211]) rfl ⟨(b2i_t c3), c4, c5, c7, g8, trivial⟩ ?_
            cases h
            exact hV.ri rfl rfl rfl hP
          · rw [if_neg c7] at h
            by_cases c9 : l2 = 2
            · rw [if_pos c9] at h
              by_cases g10 : ((11 * l1) + 10) < 0 ∨ 2211 ≤ ((11 * l1) + 10).toNatClampNeg
              · rw [if_pos g10] at h; cases h
              rw [if_neg g10] at h
              refine hV.run 22 [0, 1, 1, 1, 0] (ws' := wX8 q1.2) (pc' := 132) (ls' := [(4, .int (11 * l1)), (3, .int s0), (0, .ref 0), (1, .int l1), (2, .int l2)]) (st' := [.int ((q1.2 25) ((11 * l1) + 10).toNatClampNeg)]) (ps := [¬ (b2i (X8_isIn l1 0 ((q1.2 0 51) - 1))) = 0, ¬ s0 = 0, ¬ l2 = 0, ¬ l2 = 1, l2 = 2, vp_in ((11 * l1) + 10) 2211]) rfl ⟨(b2i_t c3), c4, c5, c7, c9, g10, trivial⟩ ?_
              cases h
              exact hV.ri rfl rfl rfl hP
            · rw [if_neg c9] at h
              by_cases g11 : (((11 * l1) + l2) - 3) < 0 ∨ 2211 ≤ (((11 * l1) + l2) - 3).toNatClampNeg
              · rw [if_pos g11] at h; cases h
              rw [if_neg g11] at h
              refine hV.run 23 [0, 1, 1, 1, 1] (ws' := wX8 q1.2) (pc' := 132) (ls' := [(4, .int (11 * l1)), (3, .int s0), (0, .ref 0), (1, .int l1), (2, .int l2)]) (st' := [.int ((q1.2 25) (((11 * l1) + l2) - 3).toNatClampNeg)]) (ps := [¬ (b2i (X8_isIn l1 0 ((q1.2 0 51) - 1))) = 0, ¬ s0 = 0, ¬ l2 = 0, ¬ l2 = 1, ¬ l2 = 2, vp_in (((11 * l1) + l2) - 3) 2211]) rfl ⟨(b2i_t c3), c4, c5, c7, c9, g11, trivial⟩ ?_
              cases h
              exact hV.ri rfl rfl rfl hP
    · rw [if_neg c3] at h
      refine hV.run 1 [1] (ws' := wX8 q1.2) (pc' := 59) (ls' := [(3, .int s0), (0, .ref 0), (1, .int l1), (2, .int l2)]) (st' := []) (ps := [(b2i (X8_isIn l1 0 ((q1.2 0 51) - 1))) = 0]) rfl ⟨(b2i_f c3), trivial⟩ ?_
      refine hV.pick [1] (ls' := [(0, .ref 0)]) rfl ?_
      exact p_X8_ending_J59 hV n res hP q1.2 h
  · rw [if_neg c2] at h
    refine hV.run 1 [1] (ws' := wX8 q1.2) (pc' := 59) (ls' := [(3, .int s0), (0, .ref 0), (1, .int l1), (2, .int l2)]) (st' := []) (ps := [(b2i q1.1) = 0]) rfl ⟨(b2i_f c2), trivial⟩ ?_
    refine hV.pick [1] (ls' := [(0, .ref 0)]) rfl ?_
    exact p_X8_ending_J59 hV n res hP q1.2 h
def X8_ending_J28 (n : Nat) (σ : am_M) (l1 : Int32) (l2 : Int32) : Option (Int32 × am_M) := X8_ending_J33 n σ l1 l2 1
set_option maxRecDepth 100000 in
set_option maxHeartbeats 4000000 in
theorem p_X8_ending_J28 {l : Launch} {Post : Option Value → am_W → Prop} {V : am_VT} (hV : am_B l RX8 false 13 (am_cdT' tX8_ending) (am_rfL rfX8) (some .int) Post 36 V) (n : Nat) (res : (Int32 × am_M)) (hP : Post (some (.int res.1)) (wX8 res.2)) (σ : am_M) (l1 : Int32) (l2 : Int32) (h : X8_ending_J28 n σ l1 l2 = some res) : V (wX8 σ) 28 [(0, .ref 0), (1, .int l1), (2, .int l2)] [] := by
  unfold X8_ending_J28 at h
  refine hV.run 2 [] (ws' := wX8 σ) (pc' := 33) (ls' := [(0, .ref 0), (1, .int l1), (2, .int l2)]) (st' := [.int 1]) (ps := []) rfl trivial ?_
  exact p_X8_ending_J33 hV n res hP σ l1 l2 1 h
def X8_ending (n : Nat) (σ : am_M) (a1 : Int32) (a2 : Int32) : Option (Int32 × am_M) := if (X8_isIn a2 0 2) = true then (X8_ending_J28 n (sC σ 0 (am_u (σ 0) 2 0)) a1 a2) else (if (X8_isIn a2 4 (3 + (σ 0 3))) = true then (X8_ending_J28 n (sC σ 0 (am_u (σ 0) 2 0)) a1 a2) else (X8_ending_J33 n (sC σ 0 (am_u (σ 0) 2 0)) a1 a2 0))
set_option maxRecDepth 100000 in
set_option maxHeartbeats 4000000 in
theorem c_X8_ending (l : Launch) (n : Nat) (σ : am_M) (a1 : Int32) (a2 : Int32) (res : (Int32 × am_M)) (h : X8_ending n σ a1 a2 = some res) : am_Con l yX8_ending cX8_ending 5 (some .int) 13 [.ref 0, .int a1, .int a2] (wX8 σ) (fun (r : Option Value) (w : am_W) => r = (some (.int res.1)) ∧ w = (wX8 res.2)) := by
  refine am_metn (n0 := 36) (own := RX8) (cd := am_cdT' tX8_ending) (rf := am_rfL rfX8) (ini := false) rfl (by decide +kernel) rfl (by decide) dX8_ending rfX8_ok (Nat.le_of_ble_eq_true rfl) ?_
  intro V hV
  have hP : (fun (r : Option Value) (w : am_W) => r = (some (.int res.1)) ∧ w = (wX8 res.2)) (some (.int res.1)) (wX8 res.2) := ⟨rfl, rfl⟩
  show V (wX8 σ) 0 [(0, .ref 0), (1, .int a1), (2, .int a2)] []
  unfold X8_ending at h
  refine hV.run 6 [] (ws' := wX8 (sC σ 0 (am_u (σ 0) 2 0))) (pc' := 8) (ls' := [(0, .ref 0), (1, .int a1), (2, .int a2)]) (st' := [.int 2, .int 0, .int a2]) (ps := []) rfl trivial ?_
  refine hV.cSi (as := [.int a2, .int 0, .int 2]) (js := []) (rest := []) (st := [.int 2, .int 0, .int a2]) (ws2 := wX8 (sC σ 0 (am_u (σ 0) 2 0))) (pc2 := 11) kX8_276 (c_X8_isIn l a2 0 2) rfl rfl rfl rfl rfl rfl rfl rfl rfl rfl ?_
  by_cases c1 : (X8_isIn a2 0 2) = true
  · rw [if_pos c1] at h
    refine hV.run 1 [1] (ws' := wX8 (sC σ 0 (am_u (σ 0) 2 0))) (pc' := 28) (ls' := [(0, .ref 0), (1, .int a1), (2, .int a2)]) (st' := []) (ps := [¬ (b2i (X8_isIn a2 0 2)) = 0]) rfl ⟨(b2i_t c1), trivial⟩ ?_
    exact p_X8_ending_J28 hV n res hP (sC σ 0 (am_u (σ 0) 2 0)) a1 a2 h
  · rw [if_neg c1] at h
    refine hV.run 7 [0] (ws' := wX8 (sC σ 0 (am_u (σ 0) 2 0))) (pc' := 22) (ls' := [(0, .ref 0), (1, .int a1), (2, .int a2)]) (st' := [.int (3 + (σ 0 3)), .int 4, .int a2]) (ps := [(b2i (X8_isIn a2 0 2)) = 0]) rfl ⟨(b2i_f c1), trivial⟩ ?_
    refine hV.cSi (as := [.int a2, .int 4, .int (3 + (σ 0 3))]) (js := []) (rest := []) (st := [.int (3 + (σ 0 3)), .int 4, .int a2]) (ws2 := wX8 (sC σ 0 (am_u (σ 0) 2 0))) (pc2 := 25) kX8_276 (c_X8_isIn l a2 4 (3 + (σ 0 3))) rfl rfl rfl rfl rfl rfl rfl rfl rfl rfl ?_
    by_cases c2 : (X8_isIn a2 4 (3 + (σ 0 3))) = true
    · rw [if_pos c2] at h
      refine hV.run 1 [0] (ws' := wX8 (sC σ 0 (am_u (σ 0) 2 0))) (pc' := 28) (ls' := [(0, .ref 0), (1, .int a1), (2, .int a2)]) (st' := []) (ps := [¬ (b2i (X8_isIn a2 4 (3 + (σ 0 3)))) = 0]) rfl ⟨(b2i_t c2), trivial⟩ ?_
      exact p_X8_ending_J28 hV n res hP (sC σ 0 (am_u (σ 0) 2 0)) a1 a2 h
    · rw [if_neg c2] at h
      refine hV.run 2 [1] (ws' := wX8 (sC σ 0 (am_u (σ 0) 2 0))) (pc' := 33) (ls' := [(0, .ref 0), (1, .int a1), (2, .int a2)]) (st' := [.int 0]) (ps := [(b2i (X8_isIn a2 4 (3 + (σ 0 3)))) = 0]) rfl ⟨(b2i_f c2), trivial⟩ ?_
      exact p_X8_ending_J33 hV n res hP (sC σ 0 (am_u (σ 0) 2 0)) a1 a2 0 h

def X8_differs_J79 (n : Nat) (kont16 : am_M → Int32 → Option (Bool × am_M)) (σ : am_M) (l1 : Int32) : Option (Bool × am_M) := kont16 σ (l1 + 1)
set_option maxRecDepth 100000 in
set_option maxHeartbeats 4000000 in
theorem p_X8_differs_J79 {l : Launch} {Post : Option Value → am_W → Prop} {V : am_VT} (hV : am_B l RX8 false 13 (am_cdT' tX8_differs) (am_rfL rfX8) (some .boolean) Post 36 V) (n : Nat) (res : (Bool × am_M)) (hP : Post (some (.int (b2i res.1))) (wX8 res.2)) (kont16 : am_M → Int32 → Option (Bool × am_M)) (hk16 : ∀ (σ : am_M) (l1 : Int32), kont16 σ l1 = some res → V (wX8 σ) 16 [(0, .ref 0), (1, .int l1)] []) (σ : am_M) (l1 : Int32) (h : X8_differs_J79 n kont16 σ l1 = some res) : V (wX8 σ) 79 [(0, .ref 0), (1, .int l1)] [] := by
  unfold X8_differs_J79 at h
  refine hV.run 2 [] (ws' := wX8 σ) (pc' := 16) (ls' := [(1, .int (l1 + 1)), (0, .ref 0)]) (st' := []) (ps := []) rfl trivial ?_
  refine hV.pick [1, 0] (ls' := [(0, .ref 0), (1, .int (l1 + 1))]) rfl ?_
  exact hk16 σ (l1 + 1) h
def X8_differs_B41 (n : Nat) (kont16 : am_M → Int32 → Option (Bool × am_M)) (kont41 : am_M → Int32 → Int32 → Option (Bool × am_M)) (σ : am_M) (l1 : Int32) (l2 : Int32) : Option (Bool × am_M) := if 8 ≤ l2 then (X8_differs_J79 n kont16 σ l1) else (if (((11 * l1) + 1) + l2) < 0 ∨ 2211 ≤ (((11 * l1) + 1) + l2).toNatClampNeg then none else (if (1 + l2) < 0 ∨ 2211 ≤ (1 + l2).toNatClampNeg then none else (if (σ 25 (((11 * l1) + 1) + l2).toNatClampNeg) = (σ 25 (1 + l2).toNatClampNeg) then (kont41 σ l1 (l2 + 1)) else (some (true, σ)))))
def X8_differs_L41 (n : Nat) (kont16 : am_M → Int32 → Option (Bool × am_M)) : Nat → am_M → Int32 → Int32 → Option (Bool × am_M)
 | 0 => fun _ _ _ => none
 | k + 1 => fun σ l1 l2 => X8_differs_B41 n kont16 (X8_differs_L41 n kont16 k) σ l1 l2
set_option maxRecDepth 100000 in
set_option maxHeartbeats 4000000 in
theorem p_X8_differs_B41 {l : Launch} {Post : Option Value → am_W → Prop} {V : am_VT} (hV : am_B l RX8 false 13 (am_cdT' tX8_differs) (am_rfL rfX8) (some .boolean) Post 36 V) (n : Nat) (res : (Bool × am_M)) (hP : Post (some (.int (b2i res.1))) (wX8 res.2)) (kont16 : am_M → Int32 → Option (Bool × am_M)) (hk16 : ∀ (σ : am_M) (l1 : Int32), kont16 σ l1 = some res → V (wX8 σ) 16 [(0, .ref 0), (1, .int l1)] []) (kont41 : am_M → Int32 → Int32 → Option (Bool × am_M)) (hk41 : ∀ (σ : am_M) (l1 : Int32) (l2 : Int32), kont41 σ l1 l2 = some res → V (wX8 σ) 41 [(0, .ref 0), (1, .int l1), (2, .int l2)] []) (σ : am_M) (l1 : Int32) (l2 : Int32) (h : X8_differs_B41 n kont16 kont41 σ l1 l2 = some res) : V (wX8 σ) 41 [(0, .ref 0), (1, .int l1), (2, .int l2)] [] := by
  unfold X8_differs_B41 at h
  by_cases c1 : 8 ≤ l2
  · rw [if_pos c1] at h
    refine hV.run 3 [1] (ws' := wX8 σ) (pc' := 79) (ls' := [(0, .ref 0), (1, .int l1), (2, .int l2)]) (st' := []) (ps := [8 ≤ l2]) rfl ⟨c1, trivial⟩ ?_
    refine hV.pick [0, 1] (ls' := [(0, .ref 0), (1, .int l1)]) rfl ?_
    exact p_X8_differs_J79 hV n res hP kont16 hk16 σ l1 h
  · rw [if_neg c1] at h
    by_cases g2 : (((11 * l1) + 1) + l2) < 0 ∨ 2211 ≤ (((11 * l1) + 1) + l2).toNatClampNeg
    · rw [if_pos g2] at h; cases h
    rw [if_neg g2] at h
    by_cases g3 : (1 + l2) < 0 ∨ 2211 ≤ (1 + l2).toNatClampNeg
    · rw [if_pos g3] at h; cases h
    rw [if_neg g3] at h
    by_cases c4 : (σ 25 (((11 * l1) + 1) + l2).toNatClampNeg) = (σ 25 (1 + l2).toNatClampNeg)
    · rw [if_pos c4] at h
      refine hV.run 22 [0, 1] (ws' := wX8 σ) (pc' := 41) (ls' := [(2, .int (l2 + 1)), (0, .ref 0), (1, .int l1)]) (st' := []) (ps := [¬ 8 ≤ l2, vp_in (((11 * l1) + 1) + l2) 2211, vp_in (1 + l2) 2211, (σ 25 (((11 * l1) + 1) + l2).toNatClampNeg) = (σ 25 (1 + l2).toNatClampNeg)]) rfl ⟨c1, g2, g3, c4, trivial⟩ ?_
      refine hV.pick [1, 2, 0] (ls' := [(0, .ref 0), (1, .int l1), (2, .int (l2 + 1))]) rfl ?_
      exact hk41 σ l1 (l2 + 1) h
    · rw [if_neg c4] at h
      refine hV.run 21 [0, 0] (ws' := wX8 σ) (pc' := 72) (ls' := [(0, .ref 0), (1, .int l1), (2, .int l2)]) (st' := [.int 1]) (ps := [¬ 8 ≤ l2, vp_in (((11 * l1) + 1) + l2) 2211, vp_in (1 + l2) 2211, ¬ (σ 25 (((11 * l1) + 1) + l2).toNatClampNeg) = (σ 25 (1 + l2).toNatClampNeg)]) rfl ⟨c1, g2, g3, c4, trivial⟩ ?_
      cases h
      exact hV.rz rfl rfl rfl (Or.inr rfl) hP
theorem p_X8_differs_L41 {l : Launch} {Post : Option Value → am_W → Prop} {V : am_VT} (hV : am_B l RX8 false 13 (am_cdT' tX8_differs) (am_rfL rfX8) (some .boolean) Post 36 V) (n : Nat) (res : (Bool × am_M)) (hP : Post (some (.int (b2i res.1))) (wX8 res.2)) (kont16 : am_M → Int32 → Option (Bool × am_M)) (hk16 : ∀ (σ : am_M) (l1 : Int32), kont16 σ l1 = some res → V (wX8 σ) 16 [(0, .ref 0), (1, .int l1)] []) : ∀ (k : Nat) (σ : am_M) (l1 : Int32) (l2 : Int32) (h : X8_differs_L41 n kont16 k σ l1 l2 = some res), V (wX8 σ) 41 [(0, .ref 0), (1, .int l1), (2, .int l2)] [] := by
  intro k
  induction k with
  | zero => intro σ l1 l2 h; cases h
  | succ k ih => intro σ l1 l2 h; exact p_X8_differs_B41 hV n res hP kont16 hk16 _ ih σ l1 l2 h
def X8_differs_B16 (n : Nat) (kont16 : am_M → Int32 → Option (Bool × am_M)) (σ : am_M) (l1 : Int32) : Option (Bool × am_M) := if (σ 0 51) ≤ l1 then (some (false, σ)) else (if (11 * l1) < 0 ∨ 2211 ≤ (11 * l1).toNatClampNeg then none else (if (σ 25 (11 * l1).toNatClampNeg) = 0 then (X8_differs_L41 n kont16 n σ l1 0) else (X8_differs_J79 n kont16 σ l1)))
def X8_differs_L16 (n : Nat) : Nat → am_M → Int32 → Option (Bool × am_M)
 | 0 => fun _ _ => none
 | k + 1 => fun σ l1 => X8_differs_B16 n (X8_differs_L16 n k) σ l1
set_option maxRecDepth 100000 in
set_option maxHeartbeats 4000000 in
theorem p_X8_differs_B16 {l : Launch} {Post : Option Value → am_W → Prop} {V : am_VT} (hV : am_B l RX8 false 13 (am_cdT' tX8_differs) (am_rfL rfX8) (some .boolean) Post 36 V) (n : Nat) (res : (Bool × am_M)) (hP : Post (some (.int (b2i res.1))) (wX8 res.2)) (kont16 : am_M → Int32 → Option (Bool × am_M)) (hk16 : ∀ (σ : am_M) (l1 : Int32), kont16 σ l1 = some res → V (wX8 σ) 16 [(0, .ref 0), (1, .int l1)] []) (σ : am_M) (l1 : Int32) (h : X8_differs_B16 n kont16 σ l1 = some res) : V (wX8 σ) 16 [(0, .ref 0), (1, .int l1)] [] := by
  unfold X8_differs_B16 at h
  by_cases c1 : (σ 0 51) ≤ l1
  · rw [if_pos c1] at h
    refine hV.run 5 [1] (ws' := wX8 σ) (pc' := 86) (ls' := [(0, .ref 0), (1, .int l1)]) (st' := [.int 0]) (ps := [(σ 0 51) ≤ l1]) rfl ⟨c1, trivial⟩ ?_
    cases h
    exact hV.rz rfl rfl rfl (Or.inl rfl) hP
  · rw [if_neg c1] at h
    by_cases g2 : (11 * l1) < 0 ∨ 2211 ≤ (11 * l1).toNatClampNeg
    · rw [if_pos g2] at h; cases h
    rw [if_neg g2] at h
    by_cases c3 : (σ 25 (11 * l1).toNatClampNeg) = 0
    · rw [if_pos c3] at h
      refine hV.run 13 [0, 1] (ws' := wX8 σ) (pc' := 41) (ls' := [(2, .int 0), (0, .ref 0), (1, .int l1)]) (st' := []) (ps := [¬ (σ 0 51) ≤ l1, vp_in (11 * l1) 2211, (σ 25 (11 * l1).toNatClampNeg) = 0]) rfl ⟨c1, g2, c3, trivial⟩ ?_
      refine hV.pick [1, 2, 0] (ls' := [(0, .ref 0), (1, .int l1), (2, .int 0)]) rfl ?_
      exact p_X8_differs_L41 hV n res hP kont16 hk16 n σ l1 0 h
    · rw [if_neg c3] at h
      refine hV.run 12 [0, 0] (ws' := wX8 σ) (pc' := 79) (ls' := [(0, .ref 0), (1, .int l1)]) (st' := []) (ps := [¬ (σ 0 51) ≤ l1, vp_in (11 * l1) 2211, ¬ (σ 25 (11 * l1).toNatClampNeg) = 0]) rfl ⟨c1, g2, c3, trivial⟩ ?_
      exact p_X8_differs_J79 hV n res hP kont16 hk16 σ l1 h
theorem p_X8_differs_L16 {l : Launch} {Post : Option Value → am_W → Prop} {V : am_VT} (hV : am_B l RX8 false 13 (am_cdT' tX8_differs) (am_rfL rfX8) (some .boolean) Post 36 V) (n : Nat) (res : (Bool × am_M)) (hP : Post (some (.int (b2i res.1))) (wX8 res.2)) : ∀ (k : Nat) (σ : am_M) (l1 : Int32) (h : X8_differs_L16 n k σ l1 = some res), V (wX8 σ) 16 [(0, .ref 0), (1, .int l1)] [] := by
  intro k
  induction k with
  | zero => intro σ l1 h; cases h
  | succ k ih => intro σ l1 h; exact p_X8_differs_B16 hV n res hP _ ih σ l1 h
def X8_differs (n : Nat) (σ : am_M) : Option (Bool × am_M) := (X8_tell n (sC σ 0 (am_u (σ 0) 2 0))).bind (fun q1 => if q1.1 = true then (X8_differs_L16 n n q1.2 1) else (some (false, q1.2)))
set_option maxRecDepth 100000 in
set_option maxHeartbeats 4000000 in
theorem c_X8_differs (l : Launch) (n : Nat) (σ : am_M) (res : (Bool × am_M)) (h : X8_differs n σ = some res) : am_Con l yX8_differs cX8_differs 3 (some .boolean) 13 [.ref 0] (wX8 σ) (fun (r : Option Value) (w : am_W) => r = (some (.int (b2i res.1))) ∧ w = (wX8 res.2)) := by
  refine am_metn (n0 := 36) (own := RX8) (cd := am_cdT' tX8_differs) (rf := am_rfL rfX8) (ini := false) rfl (by decide +kernel) rfl (by decide) dX8_differs rfX8_ok (Nat.le_of_ble_eq_true rfl) ?_
  intro V hV
  have hP : (fun (r : Option Value) (w : am_W) => r = (some (.int (b2i res.1))) ∧ w = (wX8 res.2)) (some (.int (b2i res.1))) (wX8 res.2) := ⟨rfl, rfl⟩
  show V (wX8 σ) 0 [(0, .ref 0)] []
  unfold X8_differs at h
  refine hV.run 4 [] (ws' := wX8 (sC σ 0 (am_u (σ 0) 2 0))) (pc' := 6) (ls' := [(0, .ref 0)]) (st' := [.ref 0]) (ps := []) rfl trivial ?_
  obtain ⟨q1, hq1, h⟩ := am_bind h
  refine hV.cOi (as := []) (rest := []) (st := [.ref 0]) (ws2 := wX8 q1.2) (pc2 := 9) kX8_483 (c_X8_tell l n (sC σ 0 (am_u (σ 0) 2 0)) q1 hq1) rfl rfl rfl rfl rfl rfl rfl rfl rfl ?_
  by_cases c2 : q1.1 = true
  · rw [if_pos c2] at h
    refine hV.run 3 [1] (ws' := wX8 q1.2) (pc' := 16) (ls' := [(1, .int 1), (0, .ref 0)]) (st' := []) (ps := [¬ (b2i q1.1) = 0]) rfl ⟨(b2i_t c2), trivial⟩ ?_
    refine hV.pick [1, 0] (ls' := [(0, .ref 0), (1, .int 1)]) rfl ?_
    exact p_X8_differs_L16 hV n res hP n q1.2 1 h
  · rw [if_neg c2] at h
    refine hV.run 2 [0] (ws' := wX8 q1.2) (pc' := 13) (ls' := [(0, .ref 0)]) (st' := [.int 0]) (ps := [(b2i q1.1) = 0]) rfl ⟨(b2i_f c2), trivial⟩ ?_
    cases h
    exact hV.rz rfl rfl rfl (Or.inl rfl) hP

def X8_isHand (σ : am_M) (a1 : Int32) : Bool := (X8_isIn a1 0 ((σ 0 3) - 1))
set_option maxRecDepth 100000 in
set_option maxHeartbeats 4000000 in
theorem c_X8_isHand (l : Launch) (σ : am_M) (a1 : Int32) : am_Con l yX8_isHand cX8_isHand 2 (some .boolean) 2 [.ref 0, .int a1] (wX8 σ) (fun (r : Option Value) (w : am_W) => r = (some (.int (b2i (X8_isHand σ a1)))) ∧ w = (wX8 σ)) := by
  obtain ⟨res, h⟩ : ∃ res, (X8_isHand σ a1) = res := ⟨_, rfl⟩
  rw [h]
  refine am_metn (n0 := 36) (own := RX8) (cd := am_cdT' tX8_isHand) (rf := am_rfL rfX8) (ini := false) rfl (by decide +kernel) rfl (by decide) dX8_isHand rfX8_ok (Nat.le_of_ble_eq_true rfl) ?_
  intro V hV
  have hP : (fun (r : Option Value) (w : am_W) => r = (some (.int (b2i res))) ∧ w = (wX8 σ)) (some (.int (b2i res))) (wX8 σ) := ⟨rfl, rfl⟩
  show V (wX8 σ) 0 [(0, .ref 0), (1, .int a1)] []
  unfold X8_isHand at h
  refine hV.run 6 [] (ws' := wX8 σ) (pc' := 8) (ls' := [(0, .ref 0), (1, .int a1)]) (st' := [.int ((σ 0 3) - 1), .int 0, .int a1]) (ps := []) rfl trivial ?_
  refine hV.cSi (as := [.int a1, .int 0, .int ((σ 0 3) - 1)]) (js := []) (rest := []) (st := [.int ((σ 0 3) - 1), .int 0, .int a1]) (ws2 := wX8 σ) (pc2 := 11) kX8_276 (c_X8_isIn l a1 0 ((σ 0 3) - 1)) rfl rfl rfl rfl rfl rfl rfl rfl rfl rfl ?_
  subst h
  exact hV.rz rfl rfl rfl (b2i_01 _) hP

def X8_could_J31 (n : Nat) (σ : am_M) : Option (Int32 × am_M) := (X8_fail σ 1).bind (fun q1 => some (q1.1, q1.2))
set_option maxRecDepth 100000 in
set_option maxHeartbeats 4000000 in
theorem p_X8_could_J31 {l : Launch} {Post : Option Value → am_W → Prop} {V : am_VT} (hV : am_B l RX8 false 13 (am_cdT' tX8_could) (am_rfL rfX8) (some .int) Post 36 V) (n : Nat) (res : (Int32 × am_M)) (hP : Post (some (.int res.1)) (wX8 res.2)) (σ : am_M) (h : X8_could_J31 n σ = some res) : V (wX8 σ) 31 [(0, .ref 0)] [] := by
  unfold X8_could_J31 at h
  refine hV.run 2 [] (ws' := wX8 σ) (pc' := 33) (ls' := [(0, .ref 0)]) (st' := [.int 1, .ref 0]) (ps := []) rfl trivial ?_
  obtain ⟨q1, hq1, h⟩ := am_bind h
  refine hV.cOi (as := [.int 1]) (rest := []) (st := [.int 1, .ref 0]) (ws2 := wX8 q1.2) (pc2 := 36) kX8_313 (c_X8_fail l σ 1 q1 hq1) rfl rfl rfl rfl rfl rfl rfl rfl rfl ?_
  cases h
  exact hV.ri rfl rfl rfl hP
def X8_could (n : Nat) (σ : am_M) (a1 : Int32) (a2 : Int32) : Option (Int32 × am_M) := if (X8_isHand (sC σ 0 (am_u (σ 0) 2 0)) a1) = true then (if (X8_isStep (sC σ 0 (am_u (σ 0) 2 0)) a2) = true then (if a2 < 0 ∨ 80 ≤ a2.toNatClampNeg then none else (if (σ 6 a2.toNatClampNeg) = 4 then (X8_tell n (sC σ 0 (am_u (σ 0) 2 0))).bind (fun q5 => if q5.1 = true then (if ((40 * a1) + a2) < 0 ∨ 320 ≤ ((40 * a1) + a2).toNatClampNeg then none else (some (((q5.2 26) ((40 * a1) + a2).toNatClampNeg), q5.2))) else (some ((-1), q5.2))) else (X8_could_J31 n (sC σ 0 (am_u (σ 0) 2 0))))) else (X8_could_J31 n (sC σ 0 (am_u (σ 0) 2 0)))) else (X8_could_J31 n (sC σ 0 (am_u (σ 0) 2 0)))
set_option maxRecDepth 100000 in
set_option maxHeartbeats 4000000 in
theorem c_X8_could (l : Launch) (n : Nat) (σ : am_M) (a1 : Int32) (a2 : Int32) (res : (Int32 × am_M)) (h : X8_could n σ a1 a2 = some res) : am_Con l yX8_could cX8_could 3 (some .int) 13 [.ref 0, .int a1, .int a2] (wX8 σ) (fun (r : Option Value) (w : am_W) => r = (some (.int res.1)) ∧ w = (wX8 res.2)) := by
  refine am_metn (n0 := 36) (own := RX8) (cd := am_cdT' tX8_could) (rf := am_rfL rfX8) (ini := false) rfl (by decide +kernel) rfl (by decide) dX8_could rfX8_ok (Nat.le_of_ble_eq_true rfl) ?_
  intro V hV
  have hP : (fun (r : Option Value) (w : am_W) => r = (some (.int res.1)) ∧ w = (wX8 res.2)) (some (.int res.1)) (wX8 res.2) := ⟨rfl, rfl⟩
  show V (wX8 σ) 0 [(0, .ref 0), (1, .int a1), (2, .int a2)] []
  unfold X8_could at h
  refine hV.run 5 [] (ws' := wX8 (sC σ 0 (am_u (σ 0) 2 0))) (pc' := 7) (ls' := [(0, .ref 0), (1, .int a1), (2, .int a2)]) (st' := [.int a1, .ref 0]) (ps := []) rfl trivial ?_
  refine hV.cOi (as := [.int a1]) (rest := []) (st := [.int a1, .ref 0]) (ws2 := wX8 (sC σ 0 (am_u (σ 0) 2 0))) (pc2 := 10) kX8_485 (c_X8_isHand l (sC σ 0 (am_u (σ 0) 2 0)) a1) rfl rfl rfl rfl rfl rfl rfl rfl rfl ?_
  by_cases c1 : (X8_isHand (sC σ 0 (am_u (σ 0) 2 0)) a1) = true
  · rw [if_pos c1] at h
    refine hV.run 3 [0] (ws' := wX8 (sC σ 0 (am_u (σ 0) 2 0))) (pc' := 15) (ls' := [(0, .ref 0), (1, .int a1), (2, .int a2)]) (st' := [.int a2, .ref 0]) (ps := [¬ (b2i (X8_isHand (sC σ 0 (am_u (σ 0) 2 0)) a1)) = 0]) rfl ⟨(b2i_t c1), trivial⟩ ?_
    refine hV.cOi (as := [.int a2]) (rest := []) (st := [.int a2, .ref 0]) (ws2 := wX8 (sC σ 0 (am_u (σ 0) 2 0))) (pc2 := 18) kX8_334 (c_X8_isStep l (sC σ 0 (am_u (σ 0) 2 0)) a2) rfl rfl rfl rfl rfl rfl rfl rfl rfl ?_
    by_cases c2 : (X8_isStep (sC σ 0 (am_u (σ 0) 2 0)) a2) = true
    · rw [if_pos c2] at h
      by_cases g3 : a2 < 0 ∨ 80 ≤ a2.toNatClampNeg
      · rw [if_pos g3] at h; cases h
      rw [if_neg g3] at h
      by_cases c4 : (σ 6 a2.toNatClampNeg) = 4
      · rw [if_pos c4] at h
        refine hV.run 8 [0, 1] (ws' := wX8 (sC σ 0 (am_u (σ 0) 2 0))) (pc' := 38) (ls' := [(0, .ref 0), (1, .int a1), (2, .int a2)]) (st' := [.ref 0]) (ps := [¬ (b2i (X8_isStep (sC σ 0 (am_u (σ 0) 2 0)) a2)) = 0, vp_in a2 80, (σ 6 a2.toNatClampNeg) = 4]) rfl ⟨(b2i_t c2), g3, c4, trivial⟩ ?_
        obtain ⟨q5, hq5, h⟩ := am_bind h
        refine hV.cOi (as := []) (rest := []) (st := [.ref 0]) (ws2 := wX8 q5.2) (pc2 := 41) kX8_483 (c_X8_tell l n (sC σ 0 (am_u (σ 0) 2 0)) q5 hq5) rfl rfl rfl rfl rfl rfl rfl rfl rfl ?_
        by_cases c6 : q5.1 = true
        · rw [if_pos c6] at h
          by_cases g7 : ((40 * a1) + a2) < 0 ∨ 320 ≤ ((40 * a1) + a2).toNatClampNeg
          · rw [if_pos g7] at h; cases h
          rw [if_neg g7] at h
          refine hV.run 10 [0] (ws' := wX8 q5.2) (pc' := 59) (ls' := [(0, .ref 0), (1, .int a1), (2, .int a2)]) (st' := [.int ((q5.2 26) ((40 * a1) + a2).toNatClampNeg)]) (ps := [¬ (b2i q5.1) = 0, vp_in ((40 * a1) + a2) 320]) rfl ⟨(b2i_t c6), g7, trivial⟩ ?_
          cases h
          exact hV.ri rfl rfl rfl hP
        · rw [if_neg c6] at h
          refine hV.run 2 [1] (ws' := wX8 q5.2) (pc' := 59) (ls' := [(0, .ref 0), (1, .int a1), (2, .int a2)]) (st' := [.int (-1)]) (ps := [(b2i q5.1) = 0]) rfl ⟨(b2i_f c6), trivial⟩ ?_
          cases h
          exact hV.ri rfl rfl rfl hP
      · rw [if_neg c4] at h
        refine hV.run 7 [0, 0] (ws' := wX8 (sC σ 0 (am_u (σ 0) 2 0))) (pc' := 31) (ls' := [(0, .ref 0), (1, .int a1), (2, .int a2)]) (st' := []) (ps := [¬ (b2i (X8_isStep (sC σ 0 (am_u (σ 0) 2 0)) a2)) = 0, vp_in a2 80, ¬ (σ 6 a2.toNatClampNeg) = 4]) rfl ⟨(b2i_t c2), g3, c4, trivial⟩ ?_
        refine hV.pick [0] (ls' := [(0, .ref 0)]) rfl ?_
        exact p_X8_could_J31 hV n res hP (sC σ 0 (am_u (σ 0) 2 0)) h
    · rw [if_neg c2] at h
      refine hV.run 1 [1] (ws' := wX8 (sC σ 0 (am_u (σ 0) 2 0))) (pc' := 31) (ls' := [(0, .ref 0), (1, .int a1), (2, .int a2)]) (st' := []) (ps := [(b2i (X8_isStep (sC σ 0 (am_u (σ 0) 2 0)) a2)) = 0]) rfl ⟨(b2i_f c2), trivial⟩ ?_
      refine hV.pick [0] (ls' := [(0, .ref 0)]) rfl ?_
      exact p_X8_could_J31 hV n res hP (sC σ 0 (am_u (σ 0) 2 0)) h
  · rw [if_neg c1] at h
    refine hV.run 1 [1] (ws' := wX8 (sC σ 0 (am_u (σ 0) 2 0))) (pc' := 31) (ls' := [(0, .ref 0), (1, .int a1), (2, .int a2)]) (st' := []) (ps := [(b2i (X8_isHand (sC σ 0 (am_u (σ 0) 2 0)) a1)) = 0]) rfl ⟨(b2i_f c1), trivial⟩ ?_
    refine hV.pick [0] (ls' := [(0, .ref 0)]) rfl ?_
    exact p_X8_could_J31 hV n res hP (sC σ 0 (am_u (σ 0) 2 0)) h

def X8_needs_J75 (n : Nat) (σ : am_M) (l1 : Int32) (l2 : Int32) : Option (Int32 × am_M) := some (l2, sC σ 0 (am_u (σ 0) 4 l1))
set_option maxRecDepth 100000 in
set_option maxHeartbeats 4000000 in
theorem p_X8_needs_J75 {l : Launch} {Post : Option Value → am_W → Prop} {V : am_VT} (hV : am_B l RX8 false 12 (am_cdT' tX8_needs) (am_rfL rfX8) (some .int) Post 36 V) (n : Nat) (res : (Int32 × am_M)) (hP : Post (some (.int res.1)) (wX8 res.2)) (σ : am_M) (l1 : Int32) (l2 : Int32) (h : X8_needs_J75 n σ l1 l2 = some res) : V (wX8 σ) 75 [(0, .ref 0), (1, .int l1), (2, .int l2)] [] := by
  unfold X8_needs_J75 at h
  refine hV.run 4 [] (ws' := wX8 (sC σ 0 (am_u (σ 0) 4 l1))) (pc' := 81) (ls' := [(0, .ref 0), (1, .int l1), (2, .int l2)]) (st' := [.int l2]) (ps := []) rfl trivial ?_
  cases h
  exact hV.ri rfl rfl rfl hP
def X8_needs_J69 (n : Nat) (kont17 : am_M → Int32 → Int32 → Int32 → Int32 → Option (Int32 × am_M)) (σ : am_M) (l1 : Int32) (l2 : Int32) (l3 : Int32) (l4 : Int32) : Option (Int32 × am_M) := kont17 σ l1 l2 l3 (l4 + 1)
set_option maxRecDepth 100000 in
set_option maxHeartbeats 4000000 in
theorem p_X8_needs_J69 {l : Launch} {Post : Option Value → am_W → Prop} {V : am_VT} (hV : am_B l RX8 false 12 (am_cdT' tX8_needs) (am_rfL rfX8) (some .int) Post 36 V) (n : Nat) (res : (Int32 × am_M)) (hP : Post (some (.int res.1)) (wX8 res.2)) (kont17 : am_M → Int32 → Int32 → Int32 → Int32 → Option (Int32 × am_M)) (hk17 : ∀ (σ : am_M) (l1 : Int32) (l2 : Int32) (l3 : Int32) (l4 : Int32), kont17 σ l1 l2 l3 l4 = some res → V (wX8 σ) 17 [(0, .ref 0), (1, .int l1), (2, .int l2), (3, .int l3), (4, .int l4)] []) (σ : am_M) (l1 : Int32) (l2 : Int32) (l3 : Int32) (l4 : Int32) (h : X8_needs_J69 n kont17 σ l1 l2 l3 l4 = some res) : V (wX8 σ) 69 [(0, .ref 0), (1, .int l1), (2, .int l2), (3, .int l3), (4, .int l4)] [] := by
  unfold X8_needs_J69 at h
  refine hV.run 2 [] (ws' := wX8 σ) (pc' := 17) (ls' := [(4, .int (l4 + 1)), (0, .ref 0), (1, .int l1), (2, .int l2), (3, .int l3)]) (st' := []) (ps := []) rfl trivial ?_
  refine hV.pick [1, 2, 3, 4, 0] (ls' := [(0, .ref 0), (1, .int l1), (2, .int l2), (3, .int l3), (4, .int (l4 + 1))]) rfl ?_
  exact hk17 σ l1 l2 l3 (l4 + 1) h
def X8_needs_J56 (n : Nat) (kont17 : am_M → Int32 → Int32 → Int32 → Int32 → Option (Int32 × am_M)) (σ : am_M) (l1 : Int32) (l2 : Int32) (l4 : Int32) (l5 : Int32) (s0 : Int32) : Option (Int32 × am_M) := if l5 = 0 then (X8_needs_J69 n kont17 σ l1 l2 s0 l4) else (if s0 = 0 then (X8_needs_J69 n kont17 σ l1 l4 s0 l4) else (X8_needs_J69 n kont17 σ l1 l2 s0 l4))
set_option maxRecDepth 100000 in
set_option maxHeartbeats 4000000 in
theorem p_X8_needs_J56 {l : Launch} {Post : Option Value → am_W → Prop} {V : am_VT} (hV : am_B l RX8 false 12 (am_cdT' tX8_needs) (am_rfL rfX8) (some .int) Post 36 V) (n : Nat) (res : (Int32 × am_M)) (hP : Post (some (.int res.1)) (wX8 res.2)) (kont17 : am_M → Int32 → Int32 → Int32 → Int32 → Option (Int32 × am_M)) (hk17 : ∀ (σ : am_M) (l1 : Int32) (l2 : Int32) (l3 : Int32) (l4 : Int32), kont17 σ l1 l2 l3 l4 = some res → V (wX8 σ) 17 [(0, .ref 0), (1, .int l1), (2, .int l2), (3, .int l3), (4, .int l4)] []) (σ : am_M) (l1 : Int32) (l2 : Int32) (l4 : Int32) (l5 : Int32) (s0 : Int32) (h : X8_needs_J56 n kont17 σ l1 l2 l4 l5 s0 = some res) : V (wX8 σ) 56 [(0, .ref 0), (1, .int l1), (2, .int l2), (4, .int l4), (5, .int l5)] [.int s0] := by
  unfold X8_needs_J56 at h
  by_cases c1 : l5 = 0
  · rw [if_pos c1] at h
    refine hV.run 3 [1] (ws' := wX8 σ) (pc' := 69) (ls' := [(3, .int s0), (0, .ref 0), (1, .int l1), (2, .int l2), (4, .int l4), (5, .int l5)]) (st' := []) (ps := [l5 = 0]) rfl ⟨c1, trivial⟩ ?_
    refine hV.pick [1, 2, 3, 0, 4] (ls' := [(0, .ref 0), (1, .int l1), (2, .int l2), (3, .int s0), (4, .int l4)]) rfl ?_
    exact p_X8_needs_J69 hV n res hP kont17 hk17 σ l1 l2 s0 l4 h
  · rw [if_neg c1] at h
    by_cases c2 : s0 = 0
    · rw [if_pos c2] at h
      refine hV.run 7 [0, 0] (ws' := wX8 σ) (pc' := 69) (ls' := [(2, .int l4), (3, .int s0), (0, .ref 0), (1, .int l1), (4, .int l4), (5, .int l5)]) (st' := []) (ps := [¬ l5 = 0, s0 = 0]) rfl ⟨c1, c2, trivial⟩ ?_
      refine hV.pick [2, 3, 0, 1, 4] (ls' := [(0, .ref 0), (1, .int l1), (2, .int l4), (3, .int s0), (4, .int l4)]) rfl ?_
      exact p_X8_needs_J69 hV n res hP kont17 hk17 σ l1 l4 s0 l4 h
    · rw [if_neg c2] at h
      refine hV.run 5 [0, 1] (ws' := wX8 σ) (pc' := 69) (ls' := [(3, .int s0), (0, .ref 0), (1, .int l1), (2, .int l2), (4, .int l4), (5, .int l5)]) (st' := []) (ps := [¬ l5 = 0, ¬ s0 = 0]) rfl ⟨c1, c2, trivial⟩ ?_
      refine hV.pick [1, 2, 3, 0, 4] (ls' := [(0, .ref 0), (1, .int l1), (2, .int l2), (3, .int s0), (4, .int l4)]) rfl ?_
      exact p_X8_needs_J69 hV n res hP kont17 hk17 σ l1 l2 s0 l4 h
def X8_needs_J55 (n : Nat) (kont17 : am_M → Int32 → Int32 → Int32 → Int32 → Option (Int32 × am_M)) (σ : am_M) (l1 : Int32) (l2 : Int32) (l4 : Int32) (l5 : Int32) : Option (Int32 × am_M) := X8_needs_J56 n kont17 σ l1 l2 l4 l5 0
set_option maxRecDepth 100000 in
set_option maxHeartbeats 4000000 in
theorem p_X8_needs_J55 {l : Launch} {Post : Option Value → am_W → Prop} {V : am_VT} (hV : am_B l RX8 false 12 (am_cdT' tX8_needs) (am_rfL rfX8) (some .int) Post 36 V) (n : Nat) (res : (Int32 × am_M)) (hP : Post (some (.int res.1)) (wX8 res.2)) (kont17 : am_M → Int32 → Int32 → Int32 → Int32 → Option (Int32 × am_M)) (hk17 : ∀ (σ : am_M) (l1 : Int32) (l2 : Int32) (l3 : Int32) (l4 : Int32), kont17 σ l1 l2 l3 l4 = some res → V (wX8 σ) 17 [(0, .ref 0), (1, .int l1), (2, .int l2), (3, .int l3), (4, .int l4)] []) (σ : am_M) (l1 : Int32) (l2 : Int32) (l4 : Int32) (l5 : Int32) (h : X8_needs_J55 n kont17 σ l1 l2 l4 l5 = some res) : V (wX8 σ) 55 [(0, .ref 0), (1, .int l1), (2, .int l2), (4, .int l4), (5, .int l5)] [] := by
  unfold X8_needs_J55 at h
  refine hV.run 1 [] (ws' := wX8 σ) (pc' := 56) (ls' := [(0, .ref 0), (1, .int l1), (2, .int l2), (4, .int l4), (5, .int l5)]) (st' := [.int 0]) (ps := []) rfl trivial ?_
  exact p_X8_needs_J56 hV n res hP kont17 hk17 σ l1 l2 l4 l5 0 h
def X8_needs_B17 (n : Nat) (kont17 : am_M → Int32 → Int32 → Int32 → Int32 → Option (Int32 × am_M)) (σ : am_M) (l1 : Int32) (l2 : Int32) (l3 : Int32) (l4 : Int32) : Option (Int32 × am_M) := if 3 < l4 then (X8_needs_J75 n σ l1 l2) else (if l3 = 0 then (X8_needs_J75 n σ l1 l2) else (X8_go n (sC σ 0 (am_u (σ 0) 4 l4))).bind (fun q3 => if q3.1 = true then (X8_someLocks n q3.2).bind (fun q5 => if q5.1 = true then (X8_needs_J56 n kont17 q5.2 l1 l2 l4 (b2i q3.1) 1) else (X8_needs_J55 n kont17 q5.2 l1 l2 l4 (b2i q3.1))) else (X8_needs_J55 n kont17 q3.2 l1 l2 l4 (b2i q3.1))))
def X8_needs_L17 (n : Nat) : Nat → am_M → Int32 → Int32 → Int32 → Int32 → Option (Int32 × am_M)
 | 0 => fun _ _ _ _ _ => none
 | k + 1 => fun σ l1 l2 l3 l4 => X8_needs_B17 n (X8_needs_L17 n k) σ l1 l2 l3 l4
set_option maxRecDepth 100000 in
set_option maxHeartbeats 4000000 in
theorem p_X8_needs_B17 {l : Launch} {Post : Option Value → am_W → Prop} {V : am_VT} (hV : am_B l RX8 false 12 (am_cdT' tX8_needs) (am_rfL rfX8) (some .int) Post 36 V) (n : Nat) (res : (Int32 × am_M)) (hP : Post (some (.int res.1)) (wX8 res.2)) (kont17 : am_M → Int32 → Int32 → Int32 → Int32 → Option (Int32 × am_M)) (hk17 : ∀ (σ : am_M) (l1 : Int32) (l2 : Int32) (l3 : Int32) (l4 : Int32), kont17 σ l1 l2 l3 l4 = some res → V (wX8 σ) 17 [(0, .ref 0), (1, .int l1), (2, .int l2), (3, .int l3), (4, .int l4)] []) (σ : am_M) (l1 : Int32) (l2 : Int32) (l3 : Int32) (l4 : Int32) (h : X8_needs_B17 n kont17 σ l1 l2 l3 l4 = some res) : V (wX8 σ) 17 [(0, .ref 0), (1, .int l1), (2, .int l2), (3, .int l3), (4, .int l4)] [] := by
  unfold X8_needs_B17 at h
  by_cases c1 : 3 < l4
  · rw [if_pos c1] at h
    refine hV.run 3 [1] (ws' := wX8 σ) (pc' := 75) (ls' := [(0, .ref 0), (1, .int l1), (2, .int l2), (3, .int l3), (4, .int l4)]) (st' := []) (ps := [3 < l4]) rfl ⟨c1, trivial⟩ ?_
    refine hV.pick [0, 1, 2] (ls' := [(0, .ref 0), (1, .int l1), (2, .int l2)]) rfl ?_
    exact p_X8_needs_J75 hV n res hP σ l1 l2 h
  · rw [if_neg c1] at h
    by_cases c2 : l3 = 0
    · rw [if_pos c2] at h
      refine hV.run 5 [0, 1] (ws' := wX8 σ) (pc' := 75) (ls' := [(0, .ref 0), (1, .int l1), (2, .int l2), (3, .int l3), (4, .int l4)]) (st' := []) (ps := [¬ 3 < l4, l3 = 0]) rfl ⟨c1, c2, trivial⟩ ?_
      refine hV.pick [0, 1, 2] (ls' := [(0, .ref 0), (1, .int l1), (2, .int l2)]) rfl ?_
      exact p_X8_needs_J75 hV n res hP σ l1 l2 h
    · rw [if_neg c2] at h
      refine hV.run 9 [0, 0] (ws' := wX8 (sC σ 0 (am_u (σ 0) 4 l4))) (pc' := 34) (ls' := [(0, .ref 0), (1, .int l1), (2, .int l2), (3, .int l3), (4, .int l4)]) (st' := [.ref 0]) (ps := [¬ 3 < l4, ¬ l3 = 0]) rfl ⟨c1, c2, trivial⟩ ?_
      obtain ⟨q3, hq3, h⟩ := am_bind h
      refine hV.cOi (as := []) (rest := []) (st := [.ref 0]) (ws2 := wX8 q3.2) (pc2 := 37) kX8_470 (c_X8_go l n (sC σ 0 (am_u (σ 0) 4 l4)) q3 hq3) rfl rfl rfl rfl rfl rfl rfl rfl rfl ?_
      by_cases c4 : q3.1 = true
      · rw [if_pos c4] at h
        refine hV.run 4 [0] (ws' := wX8 q3.2) (pc' := 45) (ls' := [(5, .int (b2i q3.1)), (0, .ref 0), (1, .int l1), (2, .int l2), (3, .int l3), (4, .int l4)]) (st' := [.ref 0]) (ps := [¬ (b2i q3.1) = 0]) rfl ⟨(b2i_t c4), trivial⟩ ?_
        obtain ⟨q5, hq5, h⟩ := am_bind h
        refine hV.cOi (as := []) (rest := []) (st := [.ref 0]) (ws2 := wX8 q5.2) (pc2 := 48) kX8_488 (c_X8_someLocks l n q3.2 q5 hq5) rfl rfl rfl rfl rfl rfl rfl rfl rfl ?_
        by_cases c6 : q5.1 = true
        · rw [if_pos c6] at h
          refine hV.run 3 [0] (ws' := wX8 q5.2) (pc' := 56) (ls' := [(5, .int (b2i q3.1)), (0, .ref 0), (1, .int l1), (2, .int l2), (3, .int l3), (4, .int l4)]) (st' := [.int 1]) (ps := [¬ (b2i q5.1) = 0]) rfl ⟨(b2i_t c6), trivial⟩ ?_
          refine hV.pick [1, 2, 3, 5, 0] (ls' := [(0, .ref 0), (1, .int l1), (2, .int l2), (4, .int l4), (5, .int (b2i q3.1))]) rfl ?_
          exact p_X8_needs_J56 hV n res hP kont17 hk17 q5.2 l1 l2 l4 (b2i q3.1) 1 h
        · rw [if_neg c6] at h
          refine hV.run 1 [1] (ws' := wX8 q5.2) (pc' := 55) (ls' := [(5, .int (b2i q3.1)), (0, .ref 0), (1, .int l1), (2, .int l2), (3, .int l3), (4, .int l4)]) (st' := []) (ps := [(b2i q5.1) = 0]) rfl ⟨(b2i_f c6), trivial⟩ ?_
          refine hV.pick [1, 2, 3, 5, 0] (ls' := [(0, .ref 0), (1, .int l1), (2, .int l2), (4, .int l4), (5, .int (b2i q3.1))]) rfl ?_
          exact p_X8_needs_J55 hV n res hP kont17 hk17 q5.2 l1 l2 l4 (b2i q3.1) h
      · rw [if_neg c4] at h
        refine hV.run 3 [1] (ws' := wX8 q3.2) (pc' := 55) (ls' := [(5, .int (b2i q3.1)), (0, .ref 0), (1, .int l1), (2, .int l2), (3, .int l3), (4, .int l4)]) (st' := []) (ps := [(b2i q3.1) = 0]) rfl ⟨(b2i_f c4), trivial⟩ ?_
        refine hV.pick [1, 2, 3, 5, 0] (ls' := [(0, .ref 0), (1, .int l1), (2, .int l2), (4, .int l4), (5, .int (b2i q3.1))]) rfl ?_
        exact p_X8_needs_J55 hV n res hP kont17 hk17 q3.2 l1 l2 l4 (b2i q3.1) h
theorem p_X8_needs_L17 {l : Launch} {Post : Option Value → am_W → Prop} {V : am_VT} (hV : am_B l RX8 false 12 (am_cdT' tX8_needs) (am_rfL rfX8) (some .int) Post 36 V) (n : Nat) (res : (Int32 × am_M)) (hP : Post (some (.int res.1)) (wX8 res.2)) : ∀ (k : Nat) (σ : am_M) (l1 : Int32) (l2 : Int32) (l3 : Int32) (l4 : Int32) (h : X8_needs_L17 n k σ l1 l2 l3 l4 = some res), V (wX8 σ) 17 [(0, .ref 0), (1, .int l1), (2, .int l2), (3, .int l3), (4, .int l4)] [] := by
  intro k
  induction k with
  | zero => intro σ l1 l2 l3 l4 h; cases h
  | succ k ih => intro σ l1 l2 l3 l4 h; exact p_X8_needs_B17 hV n res hP _ ih σ l1 l2 l3 l4 h
def X8_needs (n : Nat) (σ : am_M) : Option (Int32 × am_M) := X8_needs_L17 n n (sC σ 0 (am_u (σ 0) 2 0)) (σ 0 4) (-1) 1 0
set_option maxRecDepth 100000 in
set_option maxHeartbeats 4000000 in
theorem c_X8_needs (l : Launch) (n : Nat) (σ : am_M) (res : (Int32 × am_M)) (h : X8_needs n σ = some res) : am_Con l yX8_needs cX8_needs 6 (some .int) 12 [.ref 0] (wX8 σ) (fun (r : Option Value) (w : am_W) => r = (some (.int res.1)) ∧ w = (wX8 res.2)) := by
  refine am_metn (n0 := 36) (own := RX8) (cd := am_cdT' tX8_needs) (rf := am_rfL rfX8) (ini := false) rfl (by decide +kernel) rfl (by decide) dX8_needs rfX8_ok (Nat.le_of_ble_eq_true rfl) ?_
  intro V hV
  have hP : (fun (r : Option Value) (w : am_W) => r = (some (.int res.1)) ∧ w = (wX8 res.2)) (some (.int res.1)) (wX8 res.2) := ⟨rfl, rfl⟩
  show V (wX8 σ) 0 [(0, .ref 0)] []
  unfold X8_needs at h
  refine hV.run 12 [] (ws' := wX8 (sC σ 0 (am_u (σ 0) 2 0))) (pc' := 17) (ls' := [(4, .int 0), (3, .int 1), (2, .int (-1)), (1, .int (σ 0 4)), (0, .ref 0)]) (st' := []) (ps := []) rfl trivial ?_
  refine hV.pick [4, 3, 2, 1, 0] (ls' := [(0, .ref 0), (1, .int (σ 0 4)), (2, .int (-1)), (3, .int 1), (4, .int 0)]) rfl ?_
  exact p_X8_needs_L17 hV n res hP n (sC σ 0 (am_u (σ 0) 2 0)) (σ 0 4) (-1) 1 0 h

def X8_cut_J132 (n : Nat) (kont103 : am_M → Int32 → Int32 → Option (Int32 × am_M)) (σ : am_M) (l1 : Int32) (l2 : Int32) (s0 : Int32) (s1 : Int32) : Option (Int32 × am_M) := if s1 < 0 ∨ 40 ≤ s1.toNatClampNeg then none else (if ¬ (s0 = 0 ∨ s0 = 1) then none else (if l2 < 0 ∨ 40 ≤ l2.toNatClampNeg then none else (kont103 (sC (sC σ 14 (upd (σ 14) l2.toNatClampNeg 0)) 27 (upd (σ 27) s1.toNatClampNeg s0)) l1 (l2 + 1))))
set_option maxRecDepth 100000 in
set_option maxHeartbeats 4000000 in
theorem p_X8_cut_J132 {l : Launch} {Post : Option Value → am_W → Prop} {V : am_VT} (hV : am_B l RX8 false 12 (am_cdT' tX8_cut) (am_rfL rfX8) (some .int) Post 36 V) (n : Nat) (res : (Int32 × am_M)) (hP : Post (some (.int res.1)) (wX8 res.2)) (kont103 : am_M → Int32 → Int32 → Option (Int32 × am_M)) (hk103 : ∀ (σ : am_M) (l1 : Int32) (l2 : Int32), kont103 σ l1 l2 = some res → V (wX8 σ) 103 [(0, .ref 0), (1, .int l1), (2, .int l2)] []) (σ : am_M) (l1 : Int32) (l2 : Int32) (s0 : Int32) (s1 : Int32) (h : X8_cut_J132 n kont103 σ l1 l2 s0 s1 = some res) : V (wX8 σ) 132 [(0, .ref 0), (1, .int l1), (2, .int l2)] [.int s0, .int s1, .ref 27] := by
  unfold X8_cut_J132 at h
  by_cases g1 : s1 < 0 ∨ 40 ≤ s1.toNatClampNeg
  · rw [if_pos g1] at h; cases h
  rw [if_neg g1] at h
  by_cases g2 : ¬ (s0 = 0 ∨ s0 = 1)
  · rw [if_pos g2] at h; cases h
  rw [if_neg g2] at h
  by_cases g3 : l2 < 0 ∨ 40 ≤ l2.toNatClampNeg
  · rw [if_pos g3] at h; cases h
  rw [if_neg g3] at h
  refine hV.run 8 [] (ws' := wX8 (sC (sC σ 14 (upd (σ 14) l2.toNatClampNeg 0)) 27 (upd (σ 27) s1.toNatClampNeg s0))) (pc' := 103) (ls' := [(2, .int (l2 + 1)), (0, .ref 0), (1, .int l1)]) (st' := []) (ps := [vp_in s1 40, s0 = 0 ∨ s0 = 1, vp_in l2 40, (0 : Int32) = 0 ∨ (0 : Int32) = 1]) rfl ⟨g1, (Classical.not_not.mp g2), g3, (Or.inl rfl), trivial⟩ ?_
  refine hV.pick [1, 2, 0] (ls' := [(0, .ref 0), (1, .int l1), (2, .int (l2 + 1))]) rfl ?_
  exact hk103 (sC (sC σ 14 (upd (σ 14) l2.toNatClampNeg 0)) 27 (upd (σ 27) s1.toNatClampNeg s0)) l1 (l2 + 1) h
def X8_cut_B103 (n : Nat) (kont103 : am_M → Int32 → Int32 → Option (Int32 × am_M)) (σ : am_M) (l1 : Int32) (l2 : Int32) : Option (Int32 × am_M) := if (σ 4 (0 : Int32).toNatClampNeg) ≤ l2 then (some (l1, sC σ 0 (am_u (σ 0) 56 (σ 0 8)))) else (if l2 < 0 ∨ 40 ≤ l2.toNatClampNeg then none else (if (σ 14 l2.toNatClampNeg) = 0 then (X8_cut_J132 n kont103 σ l1 l2 1 l2) else (X8_cut_J132 n kont103 σ l1 l2 0 l2)))
def X8_cut_L103 (n : Nat) : Nat → am_M → Int32 → Int32 → Option (Int32 × am_M)
 | 0 => fun _ _ _ => none
 | k + 1 => fun σ l1 l2 => X8_cut_B103 n (X8_cut_L103 n k) σ l1 l2
set_option maxRecDepth 100000 in
set_option maxHeartbeats 4000000 in
theorem p_X8_cut_B103 {l : Launch} {Post : Option Value → am_W → Prop} {V : am_VT} (hV : am_B l RX8 false 12 (am_cdT' tX8_cut) (am_rfL rfX8) (some .int) Post 36 V) (n : Nat) (res : (Int32 × am_M)) (hP : Post (some (.int res.1)) (wX8 res.2)) (kont103 : am_M → Int32 → Int32 → Option (Int32 × am_M)) (hk103 : ∀ (σ : am_M) (l1 : Int32) (l2 : Int32), kont103 σ l1 l2 = some res → V (wX8 σ) 103 [(0, .ref 0), (1, .int l1), (2, .int l2)] []) (σ : am_M) (l1 : Int32) (l2 : Int32) (h : X8_cut_B103 n kont103 σ l1 l2 = some res) : V (wX8 σ) 103 [(0, .ref 0), (1, .int l1), (2, .int l2)] [] := by
  unfold X8_cut_B103 at h
  by_cases c1 : (σ 4 (0 : Int32).toNatClampNeg) ≤ l2
  · rw [if_pos c1] at h
    refine hV.run 11 [1] (ws' := wX8 (sC σ 0 (am_u (σ 0) 56 (σ 0 8)))) (pc' := 155) (ls' := [(0, .ref 0), (1, .int l1), (2, .int l2)]) (st' := [.int l1]) (ps := [vp_in (0 : Int32) 2, (σ 4 (0 : Int32).toNatClampNeg) ≤ l2]) rfl ⟨(am_inc (by decide)), c1, trivial⟩ ?_
    cases h
    exact hV.ri rfl rfl rfl hP
  · rw [if_neg c1] at h
    by_cases g2 : l2 < 0 ∨ 40 ≤ l2.toNatClampNeg
    · rw [if_pos g2] at h; cases h
    rw [if_neg g2] at h
    by_cases c3 : (σ 14 l2.toNatClampNeg) = 0
    · rw [if_pos c3] at h
      refine hV.run 16 [0, 0] (ws' := wX8 σ) (pc' := 132) (ls' := [(0, .ref 0), (1, .int l1), (2, .int l2)]) (st' := [.int 1, .int l2, .ref 27]) (ps := [vp_in (0 : Int32) 2, ¬ (σ 4 (0 : Int32).toNatClampNeg) ≤ l2, vp_in l2 40, (σ 14 l2.toNatClampNeg) = 0]) rfl ⟨(am_inc (by decide)), c1, g2, c3, trivial⟩ ?_
      exact p_X8_cut_J132 hV n res hP kont103 hk103 σ l1 l2 1 l2 h
    · rw [if_neg c3] at h
      refine hV.run 15 [0, 1] (ws' := wX8 σ) (pc' := 132) (ls' := [(0, .ref 0), (1, .int l1), (2, .int l2)]) (st' := [.int 0, .int l2, .ref 27]) (ps := [vp_in (0 : Int32) 2, ¬ (σ 4 (0 : Int32).toNatClampNeg) ≤ l2, vp_in l2 40, ¬ (σ 14 l2.toNatClampNeg) = 0]) rfl ⟨(am_inc (by decide)), c1, g2, c3, trivial⟩ ?_
      exact p_X8_cut_J132 hV n res hP kont103 hk103 σ l1 l2 0 l2 h
theorem p_X8_cut_L103 {l : Launch} {Post : Option Value → am_W → Prop} {V : am_VT} (hV : am_B l RX8 false 12 (am_cdT' tX8_cut) (am_rfL rfX8) (some .int) Post 36 V) (n : Nat) (res : (Int32 × am_M)) (hP : Post (some (.int res.1)) (wX8 res.2)) : ∀ (k : Nat) (σ : am_M) (l1 : Int32) (l2 : Int32) (h : X8_cut_L103 n k σ l1 l2 = some res), V (wX8 σ) 103 [(0, .ref 0), (1, .int l1), (2, .int l2)] [] := by
  intro k
  induction k with
  | zero => intro σ l1 l2 h; cases h
  | succ k ih => intro σ l1 l2 h; exact p_X8_cut_B103 hV n res hP _ ih σ l1 l2 h
def X8_cut_J95 (n : Nat) (kont25 : am_M → Int32 → Int32 → Option (Int32 × am_M)) (σ : am_M) (l1 : Int32) (l2 : Int32) : Option (Int32 × am_M) := kont25 σ l1 (l2 + 1)
set_option maxRecDepth 100000 in
set_option maxHeartbeats 4000000 in
theorem p_X8_cut_J95 {l : Launch} {Post : Option Value → am_W → Prop} {V : am_VT} (hV : am_B l RX8 false 12 (am_cdT' tX8_cut) (am_rfL rfX8) (some .int) Post 36 V) (n : Nat) (res : (Int32 × am_M)) (hP : Post (some (.int res.1)) (wX8 res.2)) (kont25 : am_M → Int32 → Int32 → Option (Int32 × am_M)) (hk25 : ∀ (σ : am_M) (l1 : Int32) (l2 : Int32), kont25 σ l1 l2 = some res → V (wX8 σ) 25 [(0, .ref 0), (1, .int l1), (2, .int l2)] []) (σ : am_M) (l1 : Int32) (l2 : Int32) (h : X8_cut_J95 n kont25 σ l1 l2 = some res) : V (wX8 σ) 95 [(0, .ref 0), (1, .int l1), (2, .int l2)] [] := by
  unfold X8_cut_J95 at h
  refine hV.run 2 [] (ws' := wX8 σ) (pc' := 25) (ls' := [(2, .int (l2 + 1)), (0, .ref 0), (1, .int l1)]) (st' := []) (ps := []) rfl trivial ?_
  refine hV.pick [1, 2, 0] (ls' := [(0, .ref 0), (1, .int l1), (2, .int (l2 + 1))]) rfl ?_
  exact hk25 σ l1 (l2 + 1) h
def X8_cut_J93 (n : Nat) (kont25 : am_M → Int32 → Int32 → Option (Int32 × am_M)) (σ : am_M) (l2 : Int32) (s0 : Int32) (s1 : Int32) : Option (Int32 × am_M) := X8_cut_J95 n kont25 σ (s1 + s0) l2
set_option maxRecDepth 100000 in
set_option maxHeartbeats 4000000 in
theorem p_X8_cut_J93 {l : Launch} {Post : Option Value → am_W → Prop} {V : am_VT} (hV : am_B l RX8 false 12 (am_cdT' tX8_cut) (am_rfL rfX8) (some .int) Post 36 V) (n : Nat) (res : (Int32 × am_M)) (hP : Post (some (.int res.1)) (wX8 res.2)) (kont25 : am_M → Int32 → Int32 → Option (Int32 × am_M)) (hk25 : ∀ (σ : am_M) (l1 : Int32) (l2 : Int32), kont25 σ l1 l2 = some res → V (wX8 σ) 25 [(0, .ref 0), (1, .int l1), (2, .int l2)] []) (σ : am_M) (l2 : Int32) (s0 : Int32) (s1 : Int32) (h : X8_cut_J93 n kont25 σ l2 s0 s1 = some res) : V (wX8 σ) 93 [(0, .ref 0), (2, .int l2)] [.int s0, .int s1] := by
  unfold X8_cut_J93 at h
  refine hV.run 2 [] (ws' := wX8 σ) (pc' := 95) (ls' := [(1, .int (s1 + s0)), (0, .ref 0), (2, .int l2)]) (st' := []) (ps := []) rfl trivial ?_
  refine hV.pick [1, 0, 2] (ls' := [(0, .ref 0), (1, .int (s1 + s0)), (2, .int l2)]) rfl ?_
  exact p_X8_cut_J95 hV n res hP kont25 hk25 σ (s1 + s0) l2 h
def X8_cut_J75 (n : Nat) (kont25 : am_M → Int32 → Int32 → Option (Int32 × am_M)) (σ : am_M) (l1 : Int32) (l2 : Int32) (s0 : Int32) : Option (Int32 × am_M) := if l2 < 0 ∨ 40 ≤ l2.toNatClampNeg then none else (if ¬ (s0 = 0 ∨ s0 = 1) then none else (if s0 = 0 then (X8_cut_J93 n kont25 (sC σ 14 (upd (σ 14) l2.toNatClampNeg s0)) l2 1 l1) else (X8_cut_J93 n kont25 (sC σ 14 (upd (σ 14) l2.toNatClampNeg s0)) l2 0 l1)))
set_option maxRecDepth 100000 in
set_option maxHeartbeats 4000000 in
theorem p_X8_cut_J75 {l : Launch} {Post : Option Value → am_W → Prop} {V : am_VT} (hV : am_B l RX8 false 12 (am_cdT' tX8_cut) (am_rfL rfX8) (some .int) Post 36 V) (n : Nat) (res : (Int32 × am_M)) (hP : Post (some (.int res.1)) (wX8 res.2)) (kont25 : am_M → Int32 → Int32 → Option (Int32 × am_M)) (hk25 : ∀ (σ : am_M) (l1 : Int32) (l2 : Int32), kont25 σ l1 l2 = some res → V (wX8 σ) 25 [(0, .ref 0), (1, .int l1), (2, .int l2)] []) (σ : am_M) (l1 : Int32) (l2 : Int32) (s0 : Int32) (h : X8_cut_J75 n kont25 σ l1 l2 s0 = some res) : V (wX8 σ) 75 [(0, .ref 0), (1, .int l1), (2, .int l2)] [.int s0] := by
  unfold X8_cut_J75 at h
  by_cases g1 : l2 < 0 ∨ 40 ≤ l2.toNatClampNeg
  · rw [if_pos g1] at h; cases h
  rw [if_neg g1] at h
  by_cases g2 : ¬ (s0 = 0 ∨ s0 = 1)
  · rw [if_pos g2] at h; cases h
  rw [if_neg g2] at h
  by_cases c3 : s0 = 0
  · rw [if_pos c3] at h
    refine hV.run 10 [1] (ws' := wX8 (sC σ 14 (upd (σ 14) l2.toNatClampNeg s0))) (pc' := 93) (ls' := [(3, .int s0), (0, .ref 0), (1, .int l1), (2, .int l2)]) (st' := [.int 1, .int l1]) (ps := [vp_in l2 40, s0 = 0 ∨ s0 = 1, s0 = 0]) rfl ⟨g1, (Classical.not_not.mp g2), c3, trivial⟩ ?_
    refine hV.pick [1, 3] (ls' := [(0, .ref 0), (2, .int l2)]) rfl ?_
    exact p_X8_cut_J93 hV n res hP kont25 hk25 (sC σ 14 (upd (σ 14) l2.toNatClampNeg s0)) l2 1 l1 h
  · rw [if_neg c3] at h
    refine hV.run 11 [0] (ws' := wX8 (sC σ 14 (upd (σ 14) l2.toNatClampNeg s0))) (pc' := 93) (ls' := [(3, .int s0), (0, .ref 0), (1, .int l1), (2, .int l2)]) (st' := [.int 0, .int l1]) (ps := [vp_in l2 40, s0 = 0 ∨ s0 = 1, ¬ s0 = 0]) rfl ⟨g1, (Classical.not_not.mp g2), c3, trivial⟩ ?_
    refine hV.pick [1, 3] (ls' := [(0, .ref 0), (2, .int l2)]) rfl ?_
    exact p_X8_cut_J93 hV n res hP kont25 hk25 (sC σ 14 (upd (σ 14) l2.toNatClampNeg s0)) l2 0 l1 h
def X8_cut_J74 (n : Nat) (kont25 : am_M → Int32 → Int32 → Option (Int32 × am_M)) (σ : am_M) (l1 : Int32) (l2 : Int32) : Option (Int32 × am_M) := X8_cut_J75 n kont25 σ l1 l2 0
set_option maxRecDepth 100000 in
set_option maxHeartbeats 4000000 in
theorem p_X8_cut_J74 {l : Launch} {Post : Option Value → am_W → Prop} {V : am_VT} (hV : am_B l RX8 false 12 (am_cdT' tX8_cut) (am_rfL rfX8) (some .int) Post 36 V) (n : Nat) (res : (Int32 × am_M)) (hP : Post (some (.int res.1)) (wX8 res.2)) (kont25 : am_M → Int32 → Int32 → Option (Int32 × am_M)) (hk25 : ∀ (σ : am_M) (l1 : Int32) (l2 : Int32), kont25 σ l1 l2 = some res → V (wX8 σ) 25 [(0, .ref 0), (1, .int l1), (2, .int l2)] []) (σ : am_M) (l1 : Int32) (l2 : Int32) (h : X8_cut_J74 n kont25 σ l1 l2 = some res) : V (wX8 σ) 74 [(0, .ref 0), (1, .int l1), (2, .int l2)] [] := by
  unfold X8_cut_J74 at h
  refine hV.run 1 [] (ws' := wX8 σ) (pc' := 75) (ls' := [(0, .ref 0), (1, .int l1), (2, .int l2)]) (st' := [.int 0]) (ps := []) rfl trivial ?_
  exact p_X8_cut_J75 hV n res hP kont25 hk25 σ l1 l2 0 h
def X8_cut_B25 (n : Nat) (kont25 : am_M → Int32 → Int32 → Option (Int32 × am_M)) (σ : am_M) (l1 : Int32) (l2 : Int32) : Option (Int32 × am_M) := if (σ 4 (0 : Int32).toNatClampNeg) ≤ l2 then (X8_cut_L103 n n σ l1 0) else (if l2 < 0 ∨ 80 ≤ l2.toNatClampNeg then none else (if (σ 6 l2.toNatClampNeg) = 10 then (X8_cut_J95 n kont25 σ l1 l2) else (if l2 < 0 ∨ 40 ≤ l2.toNatClampNeg then none else (X8_go n (sC σ 14 (upd (σ 14) l2.toNatClampNeg 1))).bind (fun q5 => if q5.1 = true then (X8_someLocks n q5.2).bind (fun q7 => if q7.1 = true then (X8_cut_J75 n kont25 q7.2 l1 l2 1) else (X8_cut_J74 n kont25 q7.2 l1 l2)) else (X8_cut_J74 n kont25 q5.2 l1 l2)))))
def X8_cut_L25 (n : Nat) : Nat → am_M → Int32 → Int32 → Option (Int32 × am_M)
 | 0 => fun _ _ _ => none
 | k + 1 => fun σ l1 l2 => X8_cut_B25 n (X8_cut_L25 n k) σ l1 l2
set_option maxRecDepth 100000 in
set_option maxHeartbeats 4000000 in
theorem p_X8_cut_B25 {l : Launch} {Post : Option Value → am_W → Prop} {V : am_VT} (hV : am_B l RX8 false 12 (am_cdT' tX8_cut) (am_rfL rfX8) (some .int) Post 36 V) (n : Nat) (res : (Int32 × am_M)) (hP : Post (some (.int res.1)) (wX8 res.2)) (kont25 : am_M → Int32 → Int32 → Option (Int32 × am_M)) (hk25 : ∀ (σ : am_M) (l1 : Int32) (l2 : Int32), kont25 σ l1 l2 = some res → V (wX8 σ) 25 [(0, .ref 0), (1, .int l1), (2, .int l2)] []) (σ : am_M) (l1 : Int32) (l2 : Int32) (h : X8_cut_B25 n kont25 σ l1 l2 = some res) : V (wX8 σ) 25 [(0, .ref 0), (1, .int l1), (2, .int l2)] [] := by
  unfold X8_cut_B25 at h
  by_cases c1 : (σ 4 (0 : Int32).toNatClampNeg) ≤ l2
  · rw [if_pos c1] at h
    refine hV.run 8 [1] (ws' := wX8 σ) (pc' := 103) (ls' := [(2, .int 0), (0, .ref 0), (1, .int l1)]) (st' := []) (ps := [vp_in (0 : Int32) 2, (σ 4 (0 : Int32).toNatClampNeg) ≤ l2]) rfl ⟨(am_inc (by decide)), c1, trivial⟩ ?_
    refine hV.pick [1, 2, 0] (ls' := [(0, .ref 0), (1, .int l1), (2, .int 0)]) rfl ?_
    exact p_X8_cut_L103 hV n res hP n σ l1 0 h
  · rw [if_neg c1] at h
    by_cases g2 : l2 < 0 ∨ 80 ≤ l2.toNatClampNeg
    · rw [if_pos g2] at h; cases h
    rw [if_neg g2] at h
    by_cases c3 : (σ 6 l2.toNatClampNeg) = 10
    · rw [if_pos c3] at h
      refine hV.run 13 [0, 0] (ws' := wX8 σ) (pc' := 95) (ls' := [(0, .ref 0), (1, .int l1), (2, .int l2)]) (st' := []) (ps := [vp_in (0 : Int32) 2, ¬ (σ 4 (0 : Int32).toNatClampNeg) ≤ l2, vp_in l2 80, (σ 6 l2.toNatClampNeg) = 10]) rfl ⟨(am_inc (by decide)), c1, g2, c3, trivial⟩ ?_
      exact p_X8_cut_J95 hV n res hP kont25 hk25 σ l1 l2 h
    · rw [if_neg c3] at h
      by_cases g4 : l2 < 0 ∨ 40 ≤ l2.toNatClampNeg
      · rw [if_pos g4] at h; cases h
      rw [if_neg g4] at h
      refine hV.run 18 [0, 1] (ws' := wX8 (sC σ 14 (upd (σ 14) l2.toNatClampNeg 1))) (pc' := 57) (ls' := [(0, .ref 0), (1, .int l1), (2, .int l2)]) (st' := [.ref 0]) (ps := [vp_in (0 : Int32) 2, ¬ (σ 4 (0 : Int32).toNatClampNeg) ≤ l2, vp_in l2 80, ¬ (σ 6 l2.toNatClampNeg) = 10, vp_in l2 40, (1 : Int32) = 0 ∨ (1 : Int32) = 1]) rfl ⟨(am_inc (by decide)), c1, g2, c3, g4, (Or.inr rfl), trivial⟩ ?_
      obtain ⟨q5, hq5, h⟩ := am_bind h
      refine hV.cOi (as := []) (rest := []) (st := [.ref 0]) (ws2 := wX8 q5.2) (pc2 := 60) kX8_470 (c_X8_go l n (sC σ 14 (upd (σ 14) l2.toNatClampNeg 1)) q5 hq5) rfl rfl rfl rfl rfl rfl rfl rfl rfl ?_
      by_cases c6 : q5.1 = true
      · rw [if_pos c6] at h
        refine hV.run 2 [0] (ws' := wX8 q5.2) (pc' := 64) (ls' := [(0, .ref 0), (1, .int l1), (2, .int l2)]) (st' := [.ref 0]) (ps := [¬ (b2i q5.1) = 0]) rfl ⟨(b2i_t c6), trivial⟩ ?_
        obtain ⟨q7, hq7, h⟩ := am_bind h
        refine hV.cOi (as := []) (rest := []) (st := [.ref 0]) (ws2 := wX8 q7.2) (pc2 := 67) kX8_488 (c_X8_someLocks l n q5.2 q7 hq7) rfl rfl rfl rfl rfl rfl rfl rfl rfl ?_
        by_cases c8 : q7.1 = true
        · rw [if_pos c8] at h
          refine hV.run 3 [0] (ws' := wX8 q7.2) (pc' := 75) (ls' := [(0, .ref 0), (1, .int l1), (2, .int l2)]) (st' := [.int 1]) (ps := [¬ (b2i q7.1) = 0]) rfl ⟨(b2i_t c8), trivial⟩ ?_
          exact p_X8_cut_J75 hV n res hP kont25 hk25 q7.2 l1 l2 1 h
        · rw [if_neg c8] at h
          refine hV.run 1 [1] (ws' := wX8 q7.2) (pc' := 74) (ls' := [(0, .ref 0), (1, .int l1), (2, .int l2)]) (st' := []) (ps := [(b2i q7.1) = 0]) rfl ⟨(b2i_f c8), trivial⟩ ?_
          exact p_X8_cut_J74 hV n res hP kont25 hk25 q7.2 l1 l2 h
      · rw [if_neg c6] at h
        refine hV.run 1 [1] (ws' := wX8 q5.2) (pc' := 74) (ls' := [(0, .ref 0), (1, .int l1), (2, .int l2)]) (st' := []) (ps := [(b2i q5.1) = 0]) rfl ⟨(b2i_f c6), trivial⟩ ?_
        exact p_X8_cut_J74 hV n res hP kont25 hk25 q5.2 l1 l2 h
theorem p_X8_cut_L25 {l : Launch} {Post : Option Value → am_W → Prop} {V : am_VT} (hV : am_B l RX8 false 12 (am_cdT' tX8_cut) (am_rfL rfX8) (some .int) Post 36 V) (n : Nat) (res : (Int32 × am_M)) (hP : Post (some (.int res.1)) (wX8 res.2)) : ∀ (k : Nat) (σ : am_M) (l1 : Int32) (l2 : Int32) (h : X8_cut_L25 n k σ l1 l2 = some res), V (wX8 σ) 25 [(0, .ref 0), (1, .int l1), (2, .int l2)] [] := by
  intro k
  induction k with
  | zero => intro σ l1 l2 h; cases h
  | succ k ih => intro σ l1 l2 h; exact p_X8_cut_B25 hV n res hP _ ih σ l1 l2 h
def X8_cut (n : Nat) (σ : am_M) : Option (Int32 × am_M) := (X8_go n (sC σ 0 (am_u (σ 0) 2 0))).bind (fun q1 => if q1.1 = true then (X8_someLocks n q1.2).bind (fun q3 => if q3.1 = true then (X8_cut_L25 n n q3.2 0 0) else (some ((-1), q3.2))) else (some ((-1), q1.2)))
set_option maxRecDepth 100000 in
set_option maxHeartbeats 4000000 in
theorem c_X8_cut (l : Launch) (n : Nat) (σ : am_M) (res : (Int32 × am_M)) (h : X8_cut n σ = some res) : am_Con l yX8_cut cX8_cut 4 (some .int) 12 [.ref 0] (wX8 σ) (fun (r : Option Value) (w : am_W) => r = (some (.int res.1)) ∧ w = (wX8 res.2)) := by
  refine am_metn (n0 := 36) (own := RX8) (cd := am_cdT' tX8_cut) (rf := am_rfL rfX8) (ini := false) rfl (by decide +kernel) rfl (by decide) dX8_cut rfX8_ok (Nat.le_of_ble_eq_true rfl) ?_
  intro V hV
  have hP : (fun (r : Option Value) (w : am_W) => r = (some (.int res.1)) ∧ w = (wX8 res.2)) (some (.int res.1)) (wX8 res.2) := ⟨rfl, rfl⟩
  show V (wX8 σ) 0 [(0, .ref 0)] []
  unfold X8_cut at h
  refine hV.run 4 [] (ws' := wX8 (sC σ 0 (am_u (σ 0) 2 0))) (pc' := 6) (ls' := [(0, .ref 0)]) (st' := [.ref 0]) (ps := []) rfl trivial ?_
  obtain ⟨q1, hq1, h⟩ := am_bind h
  refine hV.cOi (as := []) (rest := []) (st := [.ref 0]) (ws2 := wX8 q1.2) (pc2 := 9) kX8_470 (c_X8_go l n (sC σ 0 (am_u (σ 0) 2 0)) q1 hq1) rfl rfl rfl rfl rfl rfl rfl rfl rfl ?_
  by_cases c2 : q1.1 = true
  · rw [if_pos c2] at h
    refine hV.run 2 [0] (ws' := wX8 q1.2) (pc' := 13) (ls' := [(0, .ref 0)]) (st' := [.ref 0]) (ps := [¬ (b2i q1.1) = 0]) rfl ⟨(b2i_t c2), trivial⟩ ?_
    obtain ⟨q3, hq3, h⟩ := am_bind h
    refine hV.cOi (as := []) (rest := []) (st := [.ref 0]) (ws2 := wX8 q3.2) (pc2 := 16) kX8_488 (c_X8_someLocks l n q1.2 q3 hq3) rfl rfl rfl rfl rfl rfl rfl rfl rfl ?_
    by_cases c4 : q3.1 = true
    · rw [if_pos c4] at h
      refine hV.run 5 [1] (ws' := wX8 q3.2) (pc' := 25) (ls' := [(2, .int 0), (1, .int 0), (0, .ref 0)]) (st' := []) (ps := [¬ (b2i q3.1) = 0]) rfl ⟨(b2i_t c4), trivial⟩ ?_
      refine hV.pick [2, 1, 0] (ls' := [(0, .ref 0), (1, .int 0), (2, .int 0)]) rfl ?_
      exact p_X8_cut_L25 hV n res hP n q3.2 0 0 h
    · rw [if_neg c4] at h
      refine hV.run 2 [0] (ws' := wX8 q3.2) (pc' := 20) (ls' := [(0, .ref 0)]) (st' := [.int (-1)]) (ps := [(b2i q3.1) = 0]) rfl ⟨(b2i_f c4), trivial⟩ ?_
      cases h
      exact hV.ri rfl rfl rfl hP
  · rw [if_neg c2] at h
    refine hV.run 2 [1] (ws' := wX8 q1.2) (pc' := 20) (ls' := [(0, .ref 0)]) (st' := [.int (-1)]) (ps := [(b2i q1.1) = 0]) rfl ⟨(b2i_f c2), trivial⟩ ?_
    cases h
    exact hV.ri rfl rfl rfl hP

