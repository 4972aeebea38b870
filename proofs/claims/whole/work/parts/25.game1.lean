def X0_moveLeast_J126 (n : Nat) (τ : Nat → Int64) (kont29 : am_M → Int32 → Int32 → Option (Bool × am_M)) (σ : am_M) (l1 : Int32) (l2 : Int32) : Option (Bool × am_M) := kont29 σ l1 (l2 + 1)
set_option maxRecDepth 100000 in
set_option maxHeartbeats 4000000 in
theorem p_X0_moveLeast_J126 {l : Launch} {Post : Option Value → am_W → Prop} {V : am_VT} (hV : am_B l RX0 false 6 (am_cdT' tX0_moveLeast) (am_rfL rfX0) (some .boolean) Post 22 V) (n : Nat) (τ : Nat → Int64) (res : (Bool × am_M)) (hP : Post (some (.int (b2i res.1))) (wX0 12 res.2 τ)) (kont29 : am_M → Int32 → Int32 → Option (Bool × am_M)) (hk29 : ∀ (σ : am_M) (l1 : Int32) (l2 : Int32), kont29 σ l1 l2 = some res → V (wX0 12 σ τ) 29 [(0, .ref 0), (1, .int l1), (2, .int l2)] []) (σ : am_M) (l1 : Int32) (l2 : Int32) (h : X0_moveLeast_J126 n τ kont29 σ l1 l2 = some res) : V (wX0 12 σ τ) 126 [(0, .ref 0), (1, .int l1), (2, .int l2)] [] := by
  unfold X0_moveLeast_J126 at h
  refine hV.run 2 [] (ws' := wX0 12 σ τ) (pc' := 29) (ls' := [(2, .int (l2 + 1)), (0, .ref 0), (1, .int l1)]) (st' := []) (ps := []) rfl trivial ?_
  refine hV.pick [1, 2, 0] (ls' := [(0, .ref 0), (1, .int l1), (2, .int (l2 + 1))]) rfl ?_
  exact hk29 σ l1 (l2 + 1) h
def X0_moveLeast_J84 (n : Nat) (τ : Nat → Int64) (kont29 : am_M → Int32 → Int32 → Option (Bool × am_M)) (σ : am_M) (l1 : Int32) (l2 : Int32) (l3 : Int32) (s0 : Int32) : Option (Bool × am_M) := if l3 = 0 then (X2_can n (am_sub σ 1) l2 s0).bind (fun q2 => if q2 = true then (X2_move n (am_sub σ 1) l2 s0).bind (fun q4 => (X2_goOn n (am_sub τ 1) (am_sub (am_put σ 1 19 q4) 1)).bind (fun q5 => (X0_noteChoice (am_put (am_put σ 1 19 q4) 1 19 q5)).bind (fun q6 => some (true, q6)))) else (X0_moveLeast_J126 n τ kont29 σ l1 l2)) else (X0_moveLeast_J126 n τ kont29 σ l1 l2)
set_option maxRecDepth 100000 in
set_option maxHeartbeats 4000000 in
theorem p_X0_moveLeast_J84 {l : Launch} {Post : Option Value → am_W → Prop} {V : am_VT} (hV : am_B l RX0 false 6 (am_cdT' tX0_moveLeast) (am_rfL rfX0) (some .boolean) Post 22 V) (n : Nat) (τ : Nat → Int64) (res : (Bool × am_M)) (hP : Post (some (.int (b2i res.1))) (wX0 12 res.2 τ)) (kont29 : am_M → Int32 → Int32 → Option (Bool × am_M)) (hk29 : ∀ (σ : am_M) (l1 : Int32) (l2 : Int32), kont29 σ l1 l2 = some res → V (wX0 12 σ τ) 29 [(0, .ref 0), (1, .int l1), (2, .int l2)] []) (σ : am_M) (l1 : Int32) (l2 : Int32) (l3 : Int32) (s0 : Int32) (h : X0_moveLeast_J84 n τ kont29 σ l1 l2 l3 s0 = some res) : V (wX0 12 σ τ) 84 [(0, .ref 0), (1, .int l1), (2, .int l2), (3, .int l3)] [.int s0] := by
  unfold X0_moveLeast_J84 at h
  by_cases c1 : l3 = 0
  · rw [if_pos c1] at h
    refine hV.run 7 [0] (ws' := wX0 12 σ τ) (pc' := 97) (ls' := [(4, .int s0), (0, .ref 0), (1, .int l1), (2, .int l2), (3, .int l3)]) (st' := [.int s0, .int l2, .ref 1]) (ps := [l3 = 0]) rfl ⟨c1, trivial⟩ ?_
    obtain ⟨q2, hq2, h⟩ := am_bind h
    refine hV.cBi 1 19 [] (as := [.int l2, .int s0]) (rest := []) (st := [.int s0, .int l2, .ref 1]) (ws2 := wX0 12 σ τ) (pc2 := 100) kX0_66 (c_X2_can l n (am_sub σ 1) (am_sub τ 1) l2 s0 q2 hq2) rfl rfl rfl rfl rfl rfl rfl rfl rfl rfl rfl rfl rfl rfl ?_
    by_cases c3 : q2 = true
    · rw [if_pos c3] at h
      refine hV.run 5 [0] (ws' := wX0 12 σ τ) (pc' := 110) (ls' := [(4, .int s0), (0, .ref 0), (1, .int l1), (2, .int l2), (3, .int l3)]) (st' := [.int s0, .int l2, .ref 1]) (ps := [¬ (b2i q2) = 0]) rfl ⟨(b2i_t c3), trivial⟩ ?_
      obtain ⟨q4, hq4, h⟩ := am_bind h
      refine hV.cBv 1 19 [] (as := [.int l2, .int s0]) (rest := []) (st := [.int s0, .int l2, .ref 1]) (ws2 := wX0 12 (am_put σ 1 19 q4) τ) (pc2 := 113) kX0_70 (c_X2_move l n (am_sub σ 1) (am_sub τ 1) l2 s0 q4 hq4) rfl rfl rfl rfl rfl rfl rfl rfl rfl rfl rfl rfl rfl rfl ?_
      refine hV.run 2 [] (ws' := wX0 12 (am_put σ 1 19 q4) τ) (pc' := 117) (ls' := [(4, .int s0), (0, .ref 0), (1, .int l1), (2, .int l2), (3, .int l3)]) (st' := [.ref 1]) (ps := []) rfl trivial ?_
      obtain ⟨q5, hq5, h⟩ := am_bind h
      refine hV.cBv 1 19 [] (as := []) (rest := []) (st := [.ref 1]) (ws2 := wX0 12 (am_put (am_put σ 1 19 q4) 1 19 q5) τ) (pc2 := 120) kX0_74 (c_X2_goOn l n (am_sub τ 1) (am_sub (am_put σ 1 19 q4) 1) q5 hq5) rfl rfl rfl rfl rfl rfl rfl rfl rfl rfl rfl rfl rfl rfl ?_
      refine hV.run 1 [] (ws' := wX0 12 (am_put (am_put σ 1 19 q4) 1 19 q5) τ) (pc' := 121) (ls' := [(4, .int s0), (0, .ref 0), (1, .int l1), (2, .int l2), (3, .int l3)]) (st' := [.ref 0]) (ps := []) rfl trivial ?_
      obtain ⟨q6, hq6, h⟩ := am_bind h
      refine hV.cOv (as := []) (rest := []) (st := [.ref 0]) (ws2 := wX0 12 q6 τ) (pc2 := 124) kX0_77 (c_X0_noteChoice l (am_put (am_put σ 1 19 q4) 1 19 q5) τ q6 hq6) rfl rfl rfl rfl rfl rfl rfl rfl rfl ?_
      refine hV.run 1 [] (ws' := wX0 12 q6 τ) (pc' := 125) (ls' := [(4, .int s0), (0, .ref 0), (1, .int l1), (2, .int l2), (3, .int l3)]) (st' := [.int 1]) (ps := []) rfl trivial ?_
      cases h
      exact hV.rz rfl rfl rfl (Or.inr rfl) hP
    · rw [if_neg c3] at h
      refine hV.run 1 [1] (ws' := wX0 12 σ τ) (pc' := 126) (ls' := [(4, .int s0), (0, .ref 0), (1, .int l1), (2, .int l2), (3, .int l3)]) (st' := []) (ps := [(b2i q2) = 0]) rfl ⟨(b2i_f c3), trivial⟩ ?_
      refine hV.pick [1, 2, 3] (ls' := [(0, .ref 0), (1, .int l1), (2, .int l2)]) rfl ?_
      exact p_X0_moveLeast_J126 hV n τ res hP kont29 hk29 σ l1 l2 h
  · rw [if_neg c1] at h
    refine hV.run 3 [1] (ws' := wX0 12 σ τ) (pc' := 126) (ls' := [(4, .int s0), (0, .ref 0), (1, .int l1), (2, .int l2), (3, .int l3)]) (st' := []) (ps := [¬ l3 = 0]) rfl ⟨c1, trivial⟩ ?_
    refine hV.pick [1, 2, 3] (ls' := [(0, .ref 0), (1, .int l1), (2, .int l2)]) rfl ?_
    exact p_X0_moveLeast_J126 hV n τ res hP kont29 hk29 σ l1 l2 h
def X0_moveLeast_J66 (n : Nat) (τ : Nat → Int64) (kont29 : am_M → Int32 → Int32 → Option (Bool × am_M)) (σ : am_M) (l1 : Int32) (l2 : Int32) (s0 : Int32) : Option (Bool × am_M) := if l1 = (-1) then (X2_leastSource n (am_sub σ 1) l2).bind (fun q2 => X0_moveLeast_J84 n τ kont29 σ l1 l2 s0 q2) else (X0_moveLeast_J84 n τ kont29 σ l1 l2 s0 l1)
set_option maxRecDepth 100000 in
set_option maxHeartbeats 4000000 in
theorem p_X0_moveLeast_J66 {l : Launch} {Post : Option Value → am_W → Prop} {V : am_VT} (hV : am_B l RX0 false 6 (am_cdT' tX0_moveLeast) (am_rfL rfX0) (some .boolean) Post 22 V) (n : Nat) (τ : Nat → Int64) (res : (Bool × am_M)) (hP : Post (some (.int (b2i res.1))) (wX0 12 res.2 τ)) (kont29 : am_M → Int32 → Int32 → Option (Bool × am_M)) (hk29 : ∀ (σ : am_M) (l1 : Int32) (l2 : Int32), kont29 σ l1 l2 = some res → V (wX0 12 σ τ) 29 [(0, .ref 0), (1, .int l1), (2, .int l2)] []) (σ : am_M) (l1 : Int32) (l2 : Int32) (s0 : Int32) (h : X0_moveLeast_J66 n τ kont29 σ l1 l2 s0 = some res) : V (wX0 12 σ τ) 66 [(0, .ref 0), (1, .int l1), (2, .int l2)] [.int s0] := by
  unfold X0_moveLeast_J66 at h
  by_cases c1 : l1 = (-1)
  · rw [if_pos c1] at h
    refine hV.run 7 [1] (ws' := wX0 12 σ τ) (pc' := 81) (ls' := [(3, .int s0), (0, .ref 0), (1, .int l1), (2, .int l2)]) (st' := [.int l2, .ref 1]) (ps := [l1 = (-1)]) rfl ⟨c1, trivial⟩ ?_
    obtain ⟨q2, hq2, h⟩ := am_bind h
    refine hV.cBi 1 19 [] (as := [.int l2]) (rest := []) (st := [.int l2, .ref 1]) (ws2 := wX0 12 σ τ) (pc2 := 84) kX0_62 (c_X2_leastSource l n (am_sub σ 1) (am_sub τ 1) l2 q2 hq2) rfl rfl rfl rfl rfl rfl rfl rfl rfl rfl rfl rfl rfl rfl ?_
    refine hV.pick [1, 2, 3, 0] (ls' := [(0, .ref 0), (1, .int l1), (2, .int l2), (3, .int s0)]) rfl ?_
    exact p_X0_moveLeast_J84 hV n τ res hP kont29 hk29 σ l1 l2 s0 q2 h
  · rw [if_neg c1] at h
    refine hV.run 6 [0] (ws' := wX0 12 σ τ) (pc' := 84) (ls' := [(3, .int s0), (0, .ref 0), (1, .int l1), (2, .int l2)]) (st' := [.int l1]) (ps := [¬ l1 = (-1)]) rfl ⟨c1, trivial⟩ ?_
    refine hV.pick [1, 2, 3, 0] (ls' := [(0, .ref 0), (1, .int l1), (2, .int l2), (3, .int s0)]) rfl ?_
    exact p_X0_moveLeast_J84 hV n τ res hP kont29 hk29 σ l1 l2 s0 l1 h
def X0_moveLeast_J65 (n : Nat) (τ : Nat → Int64) (kont29 : am_M → Int32 → Int32 → Option (Bool × am_M)) (σ : am_M) (l1 : Int32) (l2 : Int32) : Option (Bool × am_M) := X0_moveLeast_J66 n τ kont29 σ l1 l2 0
set_option maxRecDepth 100000 in
set_option maxHeartbeats 4000000 in
theorem p_X0_moveLeast_J65 {l : Launch} {Post : Option Value → am_W → Prop} {V : am_VT} (hV : am_B l RX0 false 6 (am_cdT' tX0_moveLeast) (am_rfL rfX0) (some .boolean) Post 22 V) (n : Nat) (τ : Nat → Int64) (res : (Bool × am_M)) (hP : Post (some (.int (b2i res.1))) (wX0 12 res.2 τ)) (kont29 : am_M → Int32 → Int32 → Option (Bool × am_M)) (hk29 : ∀ (σ : am_M) (l1 : Int32) (l2 : Int32), kont29 σ l1 l2 = some res → V (wX0 12 σ τ) 29 [(0, .ref 0), (1, .int l1), (2, .int l2)] []) (σ : am_M) (l1 : Int32) (l2 : Int32) (h : X0_moveLeast_J65 n τ kont29 σ l1 l2 = some res) : V (wX0 12 σ τ) 65 [(0, .ref 0), (1, .int l1), (2, .int l2)] [] := by
  unfold X0_moveLeast_J65 at h
  refine hV.run 1 [] (ws' := wX0 12 σ τ) (pc' := 66) (ls' := [(0, .ref 0), (1, .int l1), (2, .int l2)]) (st' := [.int 0]) (ps := []) rfl trivial ?_
  exact p_X0_moveLeast_J66 hV n τ res hP kont29 hk29 σ l1 l2 0 h
def X0_moveLeast_B29 (n : Nat) (τ : Nat → Int64) (kont29 : am_M → Int32 → Int32 → Option (Bool × am_M)) (σ : am_M) (l1 : Int32) (l2 : Int32) : Option (Bool × am_M) := if (σ 1 1) ≤ l2 then (some (false, σ)) else (if l1 = (-1) then (X0_moveLeast_J65 n τ kont29 σ l1 l2) else (if l1 = l2 then (X0_moveLeast_J65 n τ kont29 σ l1 l2) else (X2_meetsAny n (am_sub σ 1) l2).bind (fun q4 => if q4 = true then (X0_moveLeast_J66 n τ kont29 σ l1 l2 1) else (X0_moveLeast_J65 n τ kont29 σ l1 l2))))
def X0_moveLeast_L29 (n : Nat) (τ : Nat → Int64) : Nat → am_M → Int32 → Int32 → Option (Bool × am_M)
 | 0 => fun _ _ _ => none
 | k + 1 => fun σ l1 l2 => X0_moveLeast_B29 n τ (X0_moveLeast_L29 n τ k) σ l1 l2
set_option maxRecDepth 100000 in
set_option maxHeartbeats 4000000 in
theorem p_X0_moveLeast_B29 {l : Launch} {Post : Option Value → am_W → Prop} {V : am_VT} (hV : am_B l RX0 false 6 (am_cdT' tX0_moveLeast) (am_rfL rfX0) (some .boolean) Post 22 V) (n : Nat) (τ : Nat → Int64) (res : (Bool × am_M)) (hP : Post (some (.int (b2i res.1))) (wX0 12 res.2 τ)) (kont29 : am_M → Int32 → Int32 → Option (Bool × am_M)) (hk29 : ∀ (σ : am_M) (l1 : Int32) (l2 : Int32), kont29 σ l1 l2 = some res → V (wX0 12 σ τ) 29 [(0, .ref 0), (1, .int l1), (2, .int l2)] []) (σ : am_M) (l1 : Int32) (l2 : Int32) (h : X0_moveLeast_B29 n τ kont29 σ l1 l2 = some res) : V (wX0 12 σ τ) 29 [(0, .ref 0), (1, .int l1), (2, .int l2)] [] := by
  unfold X0_moveLeast_B29 at h
  by_cases c1 : (σ 1 1) ≤ l2
  · rw [if_pos c1] at h
    refine hV.run 6 [1] (ws' := wX0 12 σ τ) (pc' := 133) (ls' := [(0, .ref 0), (1, .int l1), (2, .int l2)]) (st' := [.int 0]) (ps := [(σ 1 1) ≤ l2]) rfl ⟨c1, trivial⟩ ?_
    cases h
    exact hV.rz rfl rfl rfl (Or.inl rfl) hP
  · rw [if_neg c1] at h
    by_cases c2 : l1 = (-1)
    · rw [if_pos c2] at h
      refine hV.run 8 [0, 1] (ws' := wX0 12 σ τ) (pc' := 65) (ls' := [(0, .ref 0), (1, .int l1), (2, .int l2)]) (st' := []) (ps := [¬ (σ 1 1) ≤ l2, l1 = (-1)]) rfl ⟨c1, c2, trivial⟩ ?_
      exact p_X0_moveLeast_J65 hV n τ res hP kont29 hk29 σ l1 l2 h
    · rw [if_neg c2] at h
      by_cases c3 : l1 = l2
      · rw [if_pos c3] at h
        refine hV.run 11 [0, 0, 1] (ws' := wX0 12 σ τ) (pc' := 65) (ls' := [(0, .ref 0), (1, .int l1), (2, .int l2)]) (st' := []) (ps := [¬ (σ 1 1) ≤ l2, ¬ l1 = (-1), l1 = l2]) rfl ⟨c1, c2, c3, trivial⟩ ?_
        exact p_X0_moveLeast_J65 hV n τ res hP kont29 hk29 σ l1 l2 h
      · rw [if_neg c3] at h
        refine hV.run 14 [0, 0, 0] (ws' := wX0 12 σ τ) (pc' := 55) (ls' := [(0, .ref 0), (1, .int l1), (2, .int l2)]) (st' := [.int l2, .ref 1]) (ps := [¬ (σ 1 1) ≤ l2, ¬ l1 = (-1), ¬ l1 = l2]) rfl ⟨c1, c2, c3, trivial⟩ ?_
        obtain ⟨q4, hq4, h⟩ := am_bind h
        refine hV.cBi 1 19 [] (as := [.int l2]) (rest := []) (st := [.int l2, .ref 1]) (ws2 := wX0 12 σ τ) (pc2 := 58) kX0_58 (c_X2_meetsAny l n (am_sub σ 1) (am_sub τ 1) l2 q4 hq4) rfl rfl rfl rfl rfl rfl rfl rfl rfl rfl rfl rfl rfl rfl ?_
        by_cases c5 : q4 = true
        · rw [if_pos c5] at h
          refine hV.run 3 [0] (ws' := wX0 12 σ τ) (pc' := 66) (ls' := [(0, .ref 0), (1, .int l1), (2, .int l2)]) (st' := [.int 1]) (ps := [¬ (b2i q4) = 0]) rfl ⟨(b2i_t c5), trivial⟩ ?_
          exact p_X0_moveLeast_J66 hV n τ res hP kont29 hk29 σ l1 l2 1 h
        · rw [if_neg c5] at h
          refine hV.run 1 [1] (ws' := wX0 12 σ τ) (pc' := 65) (ls' := [(0, .ref 0), (1, .int l1), (2, .int l2)]) (st' := []) (ps := [(b2i q4) = 0]) rfl ⟨(b2i_f c5), trivial⟩ ?_
          exact p_X0_moveLeast_J65 hV n τ res hP kont29 hk29 σ l1 l2 h
theorem p_X0_moveLeast_L29 {l : Launch} {Post : Option Value → am_W → Prop} {V : am_VT} (hV : am_B l RX0 false 6 (am_cdT' tX0_moveLeast) (am_rfL rfX0) (some .boolean) Post 22 V) (n : Nat) (τ : Nat → Int64) (res : (Bool × am_M)) (hP : Post (some (.int (b2i res.1))) (wX0 12 res.2 τ)) : ∀ (k : Nat) (σ : am_M) (l1 : Int32) (l2 : Int32) (h : X0_moveLeast_L29 n τ k σ l1 l2 = some res), V (wX0 12 σ τ) 29 [(0, .ref 0), (1, .int l1), (2, .int l2)] [] := by
  intro k
  induction k with
  | zero => intro σ l1 l2 h; cases h
  | succ k ih => intro σ l1 l2 h; exact p_X0_moveLeast_B29 hV n τ res hP _ ih σ l1 l2 h
def X0_moveLeast_J26 (n : Nat) (τ : Nat → Int64) (σ : am_M) (s0 : Int32) : Option (Bool × am_M) := X0_moveLeast_L29 n τ n σ s0 0
set_option maxRecDepth 100000 in
set_option maxHeartbeats 4000000 in
theorem p_X0_moveLeast_J26 {l : Launch} {Post : Option Value → am_W → Prop} {V : am_VT} (hV : am_B l RX0 false 6 (am_cdT' tX0_moveLeast) (am_rfL rfX0) (some .boolean) Post 22 V) (n : Nat) (τ : Nat → Int64) (res : (Bool × am_M)) (hP : Post (some (.int (b2i res.1))) (wX0 12 res.2 τ)) (σ : am_M) (s0 : Int32) (h : X0_moveLeast_J26 n τ σ s0 = some res) : V (wX0 12 σ τ) 26 [(0, .ref 0)] [.int s0] := by
  unfold X0_moveLeast_J26 at h
  refine hV.run 3 [] (ws' := wX0 12 σ τ) (pc' := 29) (ls' := [(2, .int 0), (1, .int s0), (0, .ref 0)]) (st' := []) (ps := []) rfl trivial ?_
  refine hV.pick [2, 1, 0] (ls' := [(0, .ref 0), (1, .int s0), (2, .int 0)]) rfl ?_
  exact p_X0_moveLeast_L29 hV n τ res hP n σ s0 0 h
def X0_moveLeast (n : Nat) (τ : Nat → Int64) (σ : am_M) : Option (Bool × am_M) := if (σ 0 1) ≤ (σ 0 4) then (X0_moveLeast_J26 n τ σ (-1)) else (X0_moveLeast_J26 n τ σ (X7_choiceOf (τ 0) (σ 0 4)))
set_option maxRecDepth 100000 in
set_option maxHeartbeats 4000000 in
theorem c_X0_moveLeast (l : Launch) (n : Nat) (τ : Nat → Int64) (σ : am_M) (res : (Bool × am_M)) (h : X0_moveLeast n τ σ = some res) : am_Con l yX0_moveLeast cX0_moveLeast 5 (some .boolean) 6 [.ref 0] (wX0 12 σ τ) (fun (r : Option Value) (w : am_W) => r = (some (.int (b2i res.1))) ∧ w = (wX0 12 res.2 τ)) := by
  refine am_metn (n0 := 22) (own := RX0) (cd := am_cdT' tX0_moveLeast) (rf := am_rfL rfX0) (ini := false) rfl (by decide +kernel) rfl (by decide) dX0_moveLeast rfX0_ok (Nat.le_of_ble_eq_true rfl) ?_
  intro V hV
  have hP : (fun (r : Option Value) (w : am_W) => r = (some (.int (b2i res.1))) ∧ w = (wX0 12 res.2 τ)) (some (.int (b2i res.1))) (wX0 12 res.2 τ) := ⟨rfl, rfl⟩
  show V (wX0 12 σ τ) 0 [(0, .ref 0)] []
  unfold X0_moveLeast at h
  by_cases c1 : (σ 0 1) ≤ (σ 0 4)
  · rw [if_pos c1] at h
    refine hV.run 6 [1] (ws' := wX0 12 σ τ) (pc' := 26) (ls' := [(0, .ref 0)]) (st' := [.int (-1)]) (ps := [(σ 0 1) ≤ (σ 0 4)]) rfl ⟨c1, trivial⟩ ?_
    exact p_X0_moveLeast_J26 hV n τ res hP σ (-1) h
  · rw [if_neg c1] at h
    refine hV.run 9 [0] (ws' := wX0 12 σ τ) (pc' := 19) (ls' := [(0, .ref 0)]) (st' := [.int (σ 0 4), .long (τ 0)]) (ps := [¬ (σ 0 1) ≤ (σ 0 4)]) rfl ⟨c1, trivial⟩ ?_
    refine hV.cSi (as := [.long (τ 0), .int (σ 0 4)]) (js := []) (rest := []) (st := [.int (σ 0 4), .long (τ 0)]) (ws2 := wX0 12 σ τ) (pc2 := 22) kX0_51 (c_X7_choiceOf l (τ 0) (σ 0 4)) rfl rfl rfl rfl rfl rfl rfl rfl rfl rfl ?_
    refine hV.run 1 [] (ws' := wX0 12 σ τ) (pc' := 26) (ls' := [(0, .ref 0)]) (st' := [.int (X7_choiceOf (τ 0) (σ 0 4))]) (ps := []) rfl trivial ?_
    exact p_X0_moveLeast_J26 hV n τ res hP σ (X7_choiceOf (τ 0) (σ 0 4)) h

def X0_findRing_B20 (n : Nat) (kont20 : am_M → Int32 → Int32 → Int32 → Option am_M) (σ : am_M) (l1 : Int32) (l2 : Int32) (l3 : Int32) : Option am_M := if 8 < l3 then (some σ) else (if l2 = (-1) then (some σ) else (if (X2_hasEnded (am_sub σ 1) l2) = true then (some σ) else (X0_placeInRing n σ l2 l1).bind (fun q4 => if q4 = (-1) then (X2_waitsFor n (am_sub (sC σ 21 (jput 8 (σ 21) l1 l2)) 1) l2).bind (fun q6 => (X0_lowest n q6).bind (fun q7 => kont20 (sC σ 21 (jput 8 (σ 21) l1 l2)) (l1 + 1) q7 (l3 + 1))) else (X0_keepRing n σ q4 l1).bind (fun q8 => some q8))))
def X0_findRing_L20 (n : Nat) : Nat → am_M → Int32 → Int32 → Int32 → Option am_M
 | 0 => fun _ _ _ _ => none
 | k + 1 => fun σ l1 l2 l3 => X0_findRing_B20 n (X0_findRing_L20 n k) σ l1 l2 l3
set_option maxRecDepth 100000 in
set_option maxHeartbeats 4000000 in
theorem p_X0_findRing_B20 {l : Launch} {Post : Option Value → am_W → Prop} {V : am_VT} (hV : am_B l RX0 false 6 (am_cdT' tX0_findRing) (am_rfL rfX0) none Post 22 V) (n : Nat) (τ : Nat → Int64) (res : am_M) (hP : Post none (wX0 12 res τ)) (kont20 : am_M → Int32 → Int32 → Int32 → Option am_M) (hk20 : ∀ (σ : am_M) (l1 : Int32) (l2 : Int32) (l3 : Int32), kont20 σ l1 l2 l3 = some res → V (wX0 12 σ τ) 20 [(0, .ref 0), (1, .int l1), (2, .int l2), (3, .int l3)] []) (σ : am_M) (l1 : Int32) (l2 : Int32) (l3 : Int32) (h : X0_findRing_B20 n kont20 σ l1 l2 l3 = some res) : V (wX0 12 σ τ) 20 [(0, .ref 0), (1, .int l1), (2, .int l2), (3, .int l3)] [] := by
  unfold X0_findRing_B20 at h
  by_cases c1 : 8 < l3
  · rw [if_pos c1] at h
    refine hV.run 3 [1] (ws' := wX0 12 σ τ) (pc' := 94) (ls' := [(0, .ref 0), (1, .int l1), (2, .int l2), (3, .int l3)]) (st' := []) (ps := [8 < l3]) rfl ⟨c1, trivial⟩ ?_
    cases h
    exact hV.rv rfl rfl rfl hP
  · rw [if_neg c1] at h
    by_cases c2 : l2 = (-1)
    · rw [if_pos c2] at h
      refine hV.run 6 [0, 1] (ws' := wX0 12 σ τ) (pc' := 94) (ls' := [(0, .ref 0), (1, .int l1), (2, .int l2), (3, .int l3)]) (st' := []) (ps := [¬ 8 < l3, l2 = (-1)]) rfl ⟨c1, c2, trivial⟩ ?_
      cases h
      exact hV.rv rfl rfl rfl hP
    · rw [if_neg c2] at h
      refine hV.run 9 [0, 0] (ws' := wX0 12 σ τ) (pc' := 36) (ls' := [(0, .ref 0), (1, .int l1), (2, .int l2), (3, .int l3)]) (st' := [.int l2, .ref 1]) (ps := [¬ 8 < l3, ¬ l2 = (-1)]) rfl ⟨c1, c2, trivial⟩ ?_
      refine hV.cBi 1 19 [] (as := [.int l2]) (rest := []) (st := [.int l2, .ref 1]) (ws2 := wX0 12 σ τ) (pc2 := 39) kX0_99 (c_X2_hasEnded l (am_sub σ 1) (am_sub τ 1) l2) rfl rfl rfl rfl rfl rfl rfl rfl rfl rfl rfl rfl rfl rfl ?_
      by_cases c3 : (X2_hasEnded (am_sub σ 1) l2) = true
      · rw [if_pos c3] at h
        refine hV.run 1 [1] (ws' := wX0 12 σ τ) (pc' := 94) (ls' := [(0, .ref 0), (1, .int l1), (2, .int l2), (3, .int l3)]) (st' := []) (ps := [¬ (b2i (X2_hasEnded (am_sub σ 1) l2)) = 0]) rfl ⟨(b2i_t c3), trivial⟩ ?_
        cases h
        exact hV.rv rfl rfl rfl hP
      · rw [if_neg c3] at h
        refine hV.run 4 [0] (ws' := wX0 12 σ τ) (pc' := 45) (ls' := [(0, .ref 0), (1, .int l1), (2, .int l2), (3, .int l3)]) (st' := [.int l1, .int l2, .ref 0]) (ps := [(b2i (X2_hasEnded (am_sub σ 1) l2)) = 0]) rfl ⟨(b2i_f c3), trivial⟩ ?_
        obtain ⟨q4, hq4, h⟩ := am_bind h
        refine hV.cOi (as := [.int l2, .int l1]) (rest := []) (st := [.int l1, .int l2, .ref 0]) (ws2 := wX0 12 σ τ) (pc2 := 48) kX0_102 (c_X0_placeInRing l n σ τ l2 l1 q4 hq4) rfl rfl rfl rfl rfl rfl rfl rfl rfl ?_
        by_cases c5 : q4 = (-1)
        · rw [if_pos c5] at h
          refine hV.run 8 [1] (ws' := wX0 12 σ τ) (pc' := 70) (ls' := [(4, .int q4), (0, .ref 0), (1, .int l1), (2, .int l2), (3, .int l3)]) (st' := [.int l2, .int l1, .ref 21]) (ps := [q4 = (-1)]) rfl ⟨c5, trivial⟩ ?_
          refine hV.cSv (as := [.ref 0, .int l1, .int l2]) (js := [21]) (rest := []) (st := [.int l2, .int l1, .ref 21]) (ws2 := wX0 12 (sC σ 21 (jput 8 (σ 21) l1 l2)) τ) (pc2 := 73) kX0_86 (c_put l 1 8 (by decide) (σ 21) l1 l2) rfl rfl rfl rfl rfl rfl rfl rfl rfl rfl ?_
          refine hV.run 4 [] (ws' := wX0 12 (sC σ 21 (jput 8 (σ 21) l1 l2)) τ) (pc' := 81) (ls' := [(1, .int (l1 + 1)), (4, .int q4), (0, .ref 0), (2, .int l2), (3, .int l3)]) (st' := [.int l2, .ref 1]) (ps := []) rfl trivial ?_
          obtain ⟨q6, hq6, h⟩ := am_bind h
          refine hV.cBi 1 19 [] (as := [.int l2]) (rest := []) (st := [.int l2, .ref 1]) (ws2 := wX0 12 (sC σ 21 (jput 8 (σ 21) l1 l2)) τ) (pc2 := 84) kX0_109 (c_X2_waitsFor l n (am_sub (sC σ 21 (jput 8 (σ 21) l1 l2)) 1) (am_sub τ 1) l2 q6 hq6) rfl rfl rfl rfl rfl rfl rfl rfl rfl rfl rfl rfl rfl rfl ?_
          obtain ⟨q7, hq7, h⟩ := am_bind h
          refine hV.cSi (as := [.int q6]) (js := []) (rest := []) (st := [.int q6]) (ws2 := wX0 12 (sC σ 21 (jput 8 (σ 21) l1 l2)) τ) (pc2 := 87) kX0_96 (c_X0_lowest l n q6 q7 hq7) rfl rfl rfl rfl rfl rfl rfl rfl rfl rfl ?_
          refine hV.run 3 [] (ws' := wX0 12 (sC σ 21 (jput 8 (σ 21) l1 l2)) τ) (pc' := 20) (ls' := [(3, .int (l3 + 1)), (2, .int q7), (1, .int (l1 + 1)), (4, .int q4), (0, .ref 0)]) (st' := []) (ps := []) rfl trivial ?_
          refine hV.pick [4, 2, 1, 0] (ls' := [(0, .ref 0), (1, .int (l1 + 1)), (2, .int q7), (3, .int (l3 + 1))]) rfl ?_
          exact hk20 (sC σ 21 (jput 8 (σ 21) l1 l2)) (l1 + 1) q7 (l3 + 1) h
        · rw [if_neg c5] at h
          refine hV.run 7 [0] (ws' := wX0 12 σ τ) (pc' := 60) (ls' := [(4, .int q4), (0, .ref 0), (1, .int l1), (2, .int l2), (3, .int l3)]) (st' := [.int l1, .int q4, .ref 0]) (ps := [¬ q4 = (-1)]) rfl ⟨c5, trivial⟩ ?_
          obtain ⟨q8, hq8, h⟩ := am_bind h
          refine hV.cOv (as := [.int q4, .int l1]) (rest := []) (st := [.int l1, .int q4, .ref 0]) (ws2 := wX0 12 q8 τ) (pc2 := 63) kX0_106 (c_X0_keepRing l n σ τ q4 l1 q8 hq8) rfl rfl rfl rfl rfl rfl rfl rfl rfl ?_
          cases h
          exact hV.rv rfl rfl rfl hP
theorem p_X0_findRing_L20 {l : Launch} {Post : Option Value → am_W → Prop} {V : am_VT} (hV : am_B l RX0 false 6 (am_cdT' tX0_findRing) (am_rfL rfX0) none Post 22 V) (n : Nat) (τ : Nat → Int64) (res : am_M) (hP : Post none (wX0 12 res τ)) : ∀ (k : Nat) (σ : am_M) (l1 : Int32) (l2 : Int32) (l3 : Int32) (h : X0_findRing_L20 n k σ l1 l2 l3 = some res), V (wX0 12 σ τ) 20 [(0, .ref 0), (1, .int l1), (2, .int l2), (3, .int l3)] [] := by
  intro k
  induction k with
  | zero => intro σ l1 l2 l3 h; cases h
  | succ k ih => intro σ l1 l2 l3 h; exact p_X0_findRing_B20 hV n τ res hP _ ih σ l1 l2 l3 h
def X0_findRing (n : Nat) (σ : am_M) : Option am_M := (X2_unended n (am_sub (sC σ 0 (am_u (σ 0) 6 0)) 1)).bind (fun q1 => (X0_lowest n q1).bind (fun q2 => X0_findRing_L20 n n (sC σ 0 (am_u (σ 0) 6 0)) 0 q2 0))
set_option maxRecDepth 100000 in
set_option maxHeartbeats 4000000 in
theorem c_X0_findRing (l : Launch) (n : Nat) (σ : am_M) (τ : Nat → Int64) (res : am_M) (h : X0_findRing n σ = some res) : am_Con l yX0_findRing cX0_findRing 5 none 6 [.ref 0] (wX0 12 σ τ) (fun (r : Option Value) (w : am_W) => r = none ∧ w = (wX0 12 res τ)) := by
  refine am_metn (n0 := 22) (own := RX0) (cd := am_cdT' tX0_findRing) (rf := am_rfL rfX0) (ini := false) rfl (by decide +kernel) rfl (by decide) dX0_findRing rfX0_ok (Nat.le_of_ble_eq_true rfl) ?_
  intro V hV
  have hP : (fun (r : Option Value) (w : am_W) => r = none ∧ w = (wX0 12 res τ)) none (wX0 12 res τ) := ⟨rfl, rfl⟩
  show V (wX0 12 σ τ) 0 [(0, .ref 0)] []
  unfold X0_findRing at h
  refine hV.run 7 [] (ws' := wX0 12 (sC σ 0 (am_u (σ 0) 6 0)) τ) (pc' := 11) (ls' := [(1, .int 0), (0, .ref 0)]) (st' := [.ref 1]) (ps := []) rfl trivial ?_
  obtain ⟨q1, hq1, h⟩ := am_bind h
  refine hV.cBi 1 19 [] (as := []) (rest := []) (st := [.ref 1]) (ws2 := wX0 12 (sC σ 0 (am_u (σ 0) 6 0)) τ) (pc2 := 14) kX0_93 (c_X2_unended l n (am_sub (sC σ 0 (am_u (σ 0) 6 0)) 1) (am_sub τ 1) q1 hq1) rfl rfl rfl rfl rfl rfl rfl rfl rfl rfl rfl rfl rfl rfl ?_
  obtain ⟨q2, hq2, h⟩ := am_bind h
  refine hV.cSi (as := [.int q1]) (js := []) (rest := []) (st := [.int q1]) (ws2 := wX0 12 (sC σ 0 (am_u (σ 0) 6 0)) τ) (pc2 := 17) kX0_96 (c_X0_lowest l n q1 q2 hq2) rfl rfl rfl rfl rfl rfl rfl rfl rfl rfl ?_
  refine hV.run 3 [] (ws' := wX0 12 (sC σ 0 (am_u (σ 0) 6 0)) τ) (pc' := 20) (ls' := [(3, .int 0), (2, .int q2), (1, .int 0), (0, .ref 0)]) (st' := []) (ps := []) rfl trivial ?_
  refine hV.pick [3, 2, 1, 0] (ls' := [(0, .ref 0), (1, .int 0), (2, .int q2), (3, .int 0)]) rfl ?_
  exact p_X0_findRing_L20 hV n τ res hP n (sC σ 0 (am_u (σ 0) 6 0)) 0 q2 0 h

def X0_tellHand (n : Nat) (σ : am_M) (a1 : Int32) (a2 : Int32) : Option Int32 := if a2 = 0 then (some (jat 8 (σ 9) a1)) else (if a2 = 1 then (some (jat 8 (σ 10) a1)) else (if a2 = 2 then (some (X2_get (am_sub σ 1) a1 0)) else (if a2 = 3 then (some (X2_get (am_sub σ 1) a1 9)) else (if a2 = 4 then (some (X2_get (am_sub σ 1) a1 8)) else (if a2 = 5 then (X2_waitsFor n (am_sub σ 1) a1).bind (fun q7 => some q7) else (if a2 = 6 then (some (X2_get (am_sub σ 1) a1 1)) else (some (X2_get (am_sub σ 1) a1 ((2 + a2) - 8)))))))))
set_option maxRecDepth 100000 in
set_option maxHeartbeats 4000000 in
theorem c_X0_tellHand (l : Launch) (n : Nat) (σ : am_M) (τ : Nat → Int64) (a1 : Int32) (a2 : Int32) (res : Int32) (h : X0_tellHand n σ a1 a2 = some res) : am_Con l yX0_tellHand cX0_tellHand 3 (some .int) 6 [.ref 0, .int a1, .int a2] (wX0 12 σ τ) (fun (r : Option Value) (w : am_W) => r = (some (.int res)) ∧ w = (wX0 12 σ τ)) := by
  refine am_metn (n0 := 22) (own := RX0) (cd := am_cdT' tX0_tellHand) (rf := am_rfL rfX0) (ini := false) rfl (by decide +kernel) rfl (by decide) dX0_tellHand rfX0_ok (Nat.le_of_ble_eq_true rfl) ?_
  intro V hV
  have hP : (fun (r : Option Value) (w : am_W) => r = (some (.int res)) ∧ w = (wX0 12 σ τ)) (some (.int res)) (wX0 12 σ τ) := ⟨rfl, rfl⟩
  show V (wX0 12 σ τ) 0 [(0, .ref 0), (1, .int a1), (2, .int a2)] []
  unfold X0_tellHand at h
  by_cases c1 : a2 = 0
  · rw [if_pos c1] at h
    refine hV.run 6 [1] (ws' := wX0 12 σ τ) (pc' := 52) (ls' := [(0, .ref 0), (1, .int a1), (2, .int a2)]) (st' := [.int a1, .ref 9]) (ps := [a2.toInt = 0 + ((0 : Nat) : Int), 0 < 7, ¬ 6 < a2.toInt]) rfl ⟨(by rw [c1]; decide), (by decide), (by rw [c1]; decide), trivial⟩ ?_
    refine hV.cSi (as := [.ref 0, .int a1]) (js := [9]) (rest := []) (st := [.int a1, .ref 9]) (ws2 := wX0 12 σ τ) (pc2 := 55) kX0_112 (c_at l 1 8 (by decide) (σ 9) a1) rfl rfl rfl rfl rfl rfl rfl rfl rfl rfl ?_
    cases h
    exact hV.ri rfl rfl rfl hP
  · rw [if_neg c1] at h
    by_cases c2 : a2 = 1
    · rw [if_pos c2] at h
      refine hV.run 6 [2] (ws' := wX0 12 σ τ) (pc' := 64) (ls' := [(0, .ref 0), (1, .int a1), (2, .int a2)]) (st' := [.int a1, .ref 10]) (ps := [a2.toInt = 0 + ((1 : Nat) : Int), 1 < 7, ¬ 6 < a2.toInt]) rfl ⟨(by rw [c2]; decide), (by decide), (by rw [c2]; decide), trivial⟩ ?_
      refine hV.cSi (as := [.ref 0, .int a1]) (js := [10]) (rest := []) (st := [.int a1, .ref 10]) (ws2 := wX0 12 σ τ) (pc2 := 67) kX0_112 (c_at l 1 8 (by decide) (σ 10) a1) rfl rfl rfl rfl rfl rfl rfl rfl rfl rfl ?_
      cases h
      exact hV.ri rfl rfl rfl hP
    · rw [if_neg c2] at h
      by_cases c3 : a2 = 2
      · rw [if_pos c3] at h
        refine hV.run 6 [3] (ws' := wX0 12 σ τ) (pc' := 74) (ls' := [(0, .ref 0), (1, .int a1), (2, .int a2)]) (st' := [.int 0, .int a1, .ref 1]) (ps := [a2.toInt = 0 + ((2 : Nat) : Int), 2 < 7, ¬ 6 < a2.toInt]) rfl ⟨(by rw [c3]; decide), (by decide), (by rw [c3]; decide), trivial⟩ ?_
        refine hV.cBi 1 19 [] (as := [.int a1, .int 0]) (rest := []) (st := [.int 0, .int a1, .ref 1]) (ws2 := wX0 12 σ τ) (pc2 := 77) kX0_122 (c_X2_get l (am_sub σ 1) (am_sub τ 1) a1 0) rfl rfl rfl rfl rfl rfl rfl rfl rfl rfl rfl rfl rfl rfl ?_
        cases h
        exact hV.ri rfl rfl rfl hP
      · rw [if_neg c3] at h
        by_cases c4 : a2 = 3
        · rw [if_pos c4] at h
          refine hV.run 6 [4] (ws' := wX0 12 σ τ) (pc' := 85) (ls' := [(0, .ref 0), (1, .int a1), (2, .int a2)]) (st' := [.int 9, .int a1, .ref 1]) (ps := [a2.toInt = 0 + ((3 : Nat) : Int), 3 < 7, ¬ 6 < a2.toInt]) rfl ⟨(by rw [c4]; decide), (by decide), (by rw [c4]; decide), trivial⟩ ?_
          refine hV.cBi 1 19 [] (as := [.int a1, .int 9]) (rest := []) (st := [.int 9, .int a1, .ref 1]) (ws2 := wX0 12 σ τ) (pc2 := 88) kX0_122 (c_X2_get l (am_sub σ 1) (am_sub τ 1) a1 9) rfl rfl rfl rfl rfl rfl rfl rfl rfl rfl rfl rfl rfl rfl ?_
          cases h
          exact hV.ri rfl rfl rfl hP
        · rw [if_neg c4] at h
          by_cases c5 : a2 = 4
          · rw [if_pos c5] at h
            refine hV.run 6 [5] (ws' := wX0 12 σ τ) (pc' := 96) (ls' := [(0, .ref 0), (1, .int a1), (2, .int a2)]) (st' := [.int 8, .int a1, .ref 1]) (ps := [a2.toInt = 0 + ((4 : Nat) : Int), 4 < 7, ¬ 6 < a2.toInt]) rfl ⟨(by rw [c5]; decide), (by decide), (by rw [c5]; decide), trivial⟩ ?_
            refine hV.cBi 1 19 [] (as := [.int a1, .int 8]) (rest := []) (st := [.int 8, .int a1, .ref 1]) (ws2 := wX0 12 σ τ) (pc2 := 99) kX0_122 (c_X2_get l (am_sub σ 1) (am_sub τ 1) a1 8) rfl rfl rfl rfl rfl rfl rfl rfl rfl rfl rfl rfl rfl rfl ?_
            cases h
            exact hV.ri rfl rfl rfl hP
          · rw [if_neg c5] at h
            by_cases c6 : a2 = 5
            · rw [if_pos c6] at h
              refine hV.run 5 [6] (ws' := wX0 12 σ τ) (pc' := 105) (ls' := [(0, .ref 0), (1, .int a1), (2, .int a2)]) (st' := [.int a1, .ref 1]) (ps := [a2.toInt = 0 + ((5 : Nat) : Int), 5 < 7, ¬ 6 < a2.toInt]) rfl ⟨(by rw [c6]; decide), (by decide), (by rw [c6]; decide), trivial⟩ ?_
              obtain ⟨q7, hq7, h⟩ := am_bind h
              refine hV.cBi 1 19 [] (as := [.int a1]) (rest := []) (st := [.int a1, .ref 1]) (ws2 := wX0 12 σ τ) (pc2 := 108) kX0_109 (c_X2_waitsFor l n (am_sub σ 1) (am_sub τ 1) a1 q7 hq7) rfl rfl rfl rfl rfl rfl rfl rfl rfl rfl rfl rfl rfl rfl ?_
              cases h
              exact hV.ri rfl rfl rfl hP
            · rw [if_neg c6] at h
              by_cases c8 : a2 = 6
              · rw [if_pos c8] at h
                refine hV.run 6 [7] (ws' := wX0 12 σ τ) (pc' := 115) (ls' := [(0, .ref 0), (1, .int a1), (2, .int a2)]) (st' := [.int 1, .int a1, .ref 1]) (ps := [a2.toInt = 0 + ((6 : Nat) : Int), 6 < 7, ¬ 6 < a2.toInt]) rfl ⟨(by rw [c8]; decide), (by decide), (by rw [c8]; decide), trivial⟩ ?_
                refine hV.cBi 1 19 [] (as := [.int a1, .int 1]) (rest := []) (st := [.int 1, .int a1, .ref 1]) (ws2 := wX0 12 σ τ) (pc2 := 118) kX0_122 (c_X2_get l (am_sub σ 1) (am_sub τ 1) a1 1) rfl rfl rfl rfl rfl rfl rfl rfl rfl rfl rfl rfl rfl rfl ?_
                cases h
                exact hV.ri rfl rfl rfl hP
              · rw [if_neg c8] at h
                refine hV.run 10 [0] (ws' := wX0 12 σ τ) (pc' := 130) (ls' := [(0, .ref 0), (1, .int a1), (2, .int a2)]) (st' := [.int ((2 + a2) - 8), .int a1, .ref 1]) (ps := [a2.toInt < 0 ∨ 6 < a2.toInt]) rfl ⟨(by have c1_ := am_ne c1 (by decide : (0 : Int32).toInt = 0); have c2_ := am_ne c2 (by decide : (1 : Int32).toInt = 1); have c3_ := am_ne c3 (by decide : (2 : Int32).toInt = 2); have c4_ := am_ne c4 (by decide : (3 : Int32).toInt = 3); have c5_ := am_ne c5 (by decide : (4 : Int32).toInt = 4); have c6_ := am_ne c6 (by decide : (5 : Int32).toInt = 5); have c8_ := am_ne c8 (by decide : (6 : Int32).toInt = 6); omega), trivial⟩ ?_
                refine hV.cBi 1 19 [] (as := [.int a1, .int ((2 + a2) - 8)]) (rest := []) (st := [.int ((2 + a2) - 8), .int a1, .ref 1]) (ws2 := wX0 12 σ τ) (pc2 := 133) kX0_122 (c_X2_get l (am_sub σ 1) (am_sub τ 1) a1 ((2 + a2) - 8)) rfl rfl rfl rfl rfl rfl rfl rfl rfl rfl rfl rfl rfl rfl ?_
                cases h
                exact hV.ri rfl rfl rfl hP

def X0_run_J59 (n : Nat) (σ : am_M) (τ : Nat → Int64) : Option (Int32 × am_M × (Nat → Int64)) := (X0_findRing n σ).bind (fun q1 => (X2_outcome n (am_sub q1 1)).bind (fun q2 => some (q2, q1, τ)))
set_option maxRecDepth 100000 in
set_option maxHeartbeats 4000000 in
theorem p_X0_run_J59 {l : Launch} {Post : Option Value → am_W → Prop} {V : am_VT} (hV : am_B l RX0 false 7 (am_cdT' tX0_run) (am_rfL rfX0) (some .int) Post 22 V) (n : Nat) (res : (Int32 × am_M × (Nat → Int64))) (hP : Post (some (.int res.1)) (wX0 12 res.2.1 res.2.2)) (σ : am_M) (τ : Nat → Int64) (h : X0_run_J59 n σ τ = some res) : V (wX0 12 σ τ) 59 [(0, .ref 0)] [] := by
  unfold X0_run_J59 at h
  refine hV.run 1 [] (ws' := wX0 12 σ τ) (pc' := 60) (ls' := [(0, .ref 0)]) (st' := [.ref 0]) (ps := []) rfl trivial ?_
  obtain ⟨q1, hq1, h⟩ := am_bind h
  refine hV.cOv (as := []) (rest := []) (st := [.ref 0]) (ws2 := wX0 12 q1 τ) (pc2 := 63) kX0_44 (c_X0_findRing l n σ τ q1 hq1) rfl rfl rfl rfl rfl rfl rfl rfl rfl ?_
  refine hV.run 2 [] (ws' := wX0 12 q1 τ) (pc' := 67) (ls' := [(0, .ref 0)]) (st' := [.ref 1]) (ps := []) rfl trivial ?_
  obtain ⟨q2, hq2, h⟩ := am_bind h
  refine hV.cBi 1 19 [] (as := []) (rest := []) (st := [.ref 1]) (ws2 := wX0 12 q1 τ) (pc2 := 70) kX0_47 (c_X2_outcome l n (am_sub q1 1) (am_sub τ 1) q2 hq2) rfl rfl rfl rfl rfl rfl rfl rfl rfl rfl rfl rfl rfl rfl ?_
  cases h
  exact hV.ri rfl rfl rfl hP
def X0_run_B35 (n : Nat) (kont35 : am_M → (Nat → Int64) → Int32 → Option (Int32 × am_M × (Nat → Int64))) (σ : am_M) (τ : Nat → Int64) (l9 : Int32) : Option (Int32 × am_M × (Nat → Int64)) := if 328 ≤ l9 then (X0_run_J59 n σ τ) else (X0_moveLeast n τ σ).bind (fun q2 => if q2.1 = true then (kont35 q2.2 τ (l9 + 1)) else (X0_run_J59 n q2.2 τ))
def X0_run_L35 (n : Nat) : Nat → am_M → (Nat → Int64) → Int32 → Option (Int32 × am_M × (Nat → Int64))
 | 0 => fun _ _ _ => none
 | k + 1 => fun σ τ l9 => X0_run_B35 n (X0_run_L35 n k) σ τ l9
set_option maxRecDepth 100000 in
set_option maxHeartbeats 4000000 in
theorem p_X0_run_B35 {l : Launch} {Post : Option Value → am_W → Prop} {V : am_VT} (hV : am_B l RX0 false 7 (am_cdT' tX0_run) (am_rfL rfX0) (some .int) Post 22 V) (n : Nat) (res : (Int32 × am_M × (Nat → Int64))) (hP : Post (some (.int res.1)) (wX0 12 res.2.1 res.2.2)) (kont35 : am_M → (Nat → Int64) → Int32 → Option (Int32 × am_M × (Nat → Int64))) (hk35 : ∀ (σ : am_M) (τ : Nat → Int64) (l9 : Int32), kont35 σ τ l9 = some res → V (wX0 12 σ τ) 35 [(0, .ref 0), (9, .int l9)] []) (σ : am_M) (τ : Nat → Int64) (l9 : Int32) (h : X0_run_B35 n kont35 σ τ l9 = some res) : V (wX0 12 σ τ) 35 [(0, .ref 0), (9, .int l9)] [] := by
  unfold X0_run_B35 at h
  by_cases c1 : 328 ≤ l9
  · rw [if_pos c1] at h
    refine hV.run 3 [1] (ws' := wX0 12 σ τ) (pc' := 59) (ls' := [(0, .ref 0), (9, .int l9)]) (st' := []) (ps := [328 ≤ l9]) rfl ⟨c1, trivial⟩ ?_
    refine hV.pick [0] (ls' := [(0, .ref 0)]) rfl ?_
    exact p_X0_run_J59 hV n res hP σ τ h
  · rw [if_neg c1] at h
    refine hV.run 4 [0] (ws' := wX0 12 σ τ) (pc' := 44) (ls' := [(0, .ref 0), (9, .int l9)]) (st' := [.ref 0]) (ps := [¬ 328 ≤ l9]) rfl ⟨c1, trivial⟩ ?_
    obtain ⟨q2, hq2, h⟩ := am_bind h
    refine hV.cOi (as := []) (rest := []) (st := [.ref 0]) (ws2 := wX0 12 q2.2 τ) (pc2 := 47) kX0_40 (c_X0_moveLeast l n τ σ q2 hq2) rfl rfl rfl rfl rfl rfl rfl rfl rfl ?_
    by_cases c3 : q2.1 = true
    · rw [if_pos c3] at h
      refine hV.run 3 [1] (ws' := wX0 12 q2.2 τ) (pc' := 35) (ls' := [(9, .int (l9 + 1)), (0, .ref 0)]) (st' := []) (ps := [¬ (b2i q2.1) = 0]) rfl ⟨(b2i_t c3), trivial⟩ ?_
      refine hV.pick [1, 0] (ls' := [(0, .ref 0), (9, .int (l9 + 1))]) rfl ?_
      exact hk35 q2.2 τ (l9 + 1) h
    · rw [if_neg c3] at h
      refine hV.run 2 [0] (ws' := wX0 12 q2.2 τ) (pc' := 59) (ls' := [(0, .ref 0), (9, .int l9)]) (st' := []) (ps := [(b2i q2.1) = 0]) rfl ⟨(b2i_f c3), trivial⟩ ?_
      refine hV.pick [0] (ls' := [(0, .ref 0)]) rfl ?_
      exact p_X0_run_J59 hV n res hP q2.2 τ h
theorem p_X0_run_L35 {l : Launch} {Post : Option Value → am_W → Prop} {V : am_VT} (hV : am_B l RX0 false 7 (am_cdT' tX0_run) (am_rfL rfX0) (some .int) Post 22 V) (n : Nat) (res : (Int32 × am_M × (Nat → Int64))) (hP : Post (some (.int res.1)) (wX0 12 res.2.1 res.2.2)) : ∀ (k : Nat) (σ : am_M) (τ : Nat → Int64) (l9 : Int32) (h : X0_run_L35 n k σ τ l9 = some res), V (wX0 12 σ τ) 35 [(0, .ref 0), (9, .int l9)] [] := by
  intro k
  induction k with
  | zero => intro σ τ l9 h; cases h
  | succ k ih => intro σ τ l9 h; exact p_X0_run_B35 hV n res hP _ ih σ τ l9 h
def X0_run (n : Nat) (σ : am_M) (τ : Nat → Int64) (a2 : Int32) (a3 : Int32) (a4 : Int32) (a5 : Int32) (a6 : Int32) (a7 : Int64) : Option (Int32 × am_M × (Nat → Int64)) := (X2_begin n (am_sub (sC σ 0 (am_u (am_u (σ 0) 1 a6) 4 0)) 1) (am_sub (upd64 τ 0 a7) 1) a2 a3 a4 a5 0).bind (fun q1 => X0_run_L35 n n (am_put (sC σ 0 (am_u (am_u (σ 0) 1 a6) 4 0)) 1 19 q1.1) (am_put (upd64 τ 0 a7) 1 19 q1.2) 0)
set_option maxRecDepth 100000 in
set_option maxHeartbeats 4000000 in
theorem c_X0_run (l : Launch) (n : Nat) (σ : am_M) (τ : Nat → Int64) (a2 : Int32) (a3 : Int32) (a4 : Int32) (a5 : Int32) (a6 : Int32) (a7 : Int64) (res : (Int32 × am_M × (Nat → Int64))) (h : X0_run n σ τ a2 a3 a4 a5 a6 a7 = some res) : am_Con l yX0_run cX0_run 10 (some .int) 7 [.ref 0, .ref 12, .int a2, .int a3, .int a4, .int a5, .int a6, .long a7] (wX0 22 σ τ) (fun (r : Option Value) (w : am_W) => r = (some (.int res.1)) ∧ w = (wX0 12 res.2.1 res.2.2)) := by
  refine am_metn (n0 := 22) (own := RX0) (cd := am_cdT' tX0_run) (rf := am_rfL rfX0) (ini := false) rfl (by decide +kernel) rfl (by decide) dX0_run rfX0_ok (Nat.le_of_ble_eq_true rfl) ?_
  intro V hV
  have hP : (fun (r : Option Value) (w : am_W) => r = (some (.int res.1)) ∧ w = (wX0 12 res.2.1 res.2.2)) (some (.int res.1)) (wX0 12 res.2.1 res.2.2) := ⟨rfl, rfl⟩
  show V (wX0 22 σ τ) 0 [(0, .ref 0), (1, .ref 12), (2, .int a2), (3, .int a3), (4, .int a4), (5, .int a5), (6, .int a6), (7, .long a7)] []
  unfold X0_run at h
  refine hV.run 17 [] (ws' := wX0 22 (sC σ 0 (am_u (am_u (σ 0) 1 a6) 4 0)) (upd64 τ 0 a7)) (pc' := 29) (ls' := [(0, .ref 0), (1, .ref 12), (2, .int a2), (3, .int a3), (4, .int a4), (5, .int a5), (6, .int a6), (7, .long a7)]) (st' := [.long 0, .int a5, .int a4, .int a3, .int a2, .ref 12, .ref 1]) (ps := []) rfl trivial ?_
  obtain ⟨q1, hq1, h⟩ := am_bind h
  refine hV.cBv 1 19 [22] (as := [.ref 11, .int a2, .int a3, .int a4, .int a5, .long 0]) (rest := []) (st := [.long 0, .int a5, .int a4, .int a3, .int a2, .ref 12, .ref 1]) (ws2 := wX0 12 (am_put (sC σ 0 (am_u (am_u (σ 0) 1 a6) 4 0)) 1 19 q1.1) (am_put (upd64 τ 0 a7) 1 19 q1.2)) (pc2 := 32) kX0_36 (c_X2_begin l n (am_sub (sC σ 0 (am_u (am_u (σ 0) 1 a6) 4 0)) 1) (am_sub (upd64 τ 0 a7) 1) a2 a3 a4 a5 0 q1 hq1) rfl rfl rfl rfl rfl rfl rfl rfl rfl rfl rfl rfl rfl rfl ?_
  refine hV.run 2 [] (ws' := wX0 12 (am_put (sC σ 0 (am_u (am_u (σ 0) 1 a6) 4 0)) 1 19 q1.1) (am_put (upd64 τ 0 a7) 1 19 q1.2)) (pc' := 35) (ls' := [(9, .int 0), (0, .ref 0), (1, .ref 12), (2, .int a2), (3, .int a3), (4, .int a4), (5, .int a5), (6, .int a6), (7, .long a7)]) (st' := []) (ps := []) rfl trivial ?_
  refine hV.pick [1, 0] (ls' := [(0, .ref 0), (9, .int 0)]) rfl ?_
  exact p_X0_run_L35 hV n res hP n (am_put (sC σ 0 (am_u (am_u (σ 0) 1 a6) 4 0)) 1 19 q1.1) (am_put (upd64 τ 0 a7) 1 19 q1.2) 0 h

