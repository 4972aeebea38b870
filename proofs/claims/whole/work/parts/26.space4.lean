def X4_visit_J107 (n : Nat) (τ : Nat → Int64) (kont9 : am_M → Int32 → Int32 → Int32 → Option am_M) (σ : am_M) (l1 : Int32) (l2 : Int32) (l3 : Int32) : Option am_M := kont9 σ l1 l2 (l3 + 1)
set_option maxRecDepth 100000 in
set_option maxHeartbeats 4000000 in
theorem p_X4_visit_J107 {l : Launch} {Post : Option Value → am_W → Prop} {V : am_VT} (hV : am_B l RX4 false 6 (am_cdT' tX4_visit) (am_rfL rfX4) none Post 28 V) (n : Nat) (τ : Nat → Int64) (res : am_M) (hP : Post none (wX4 12 res τ)) (kont9 : am_M → Int32 → Int32 → Int32 → Option am_M) (hk9 : ∀ (σ : am_M) (l1 : Int32) (l2 : Int32) (l3 : Int32), kont9 σ l1 l2 l3 = some res → V (wX4 12 σ τ) 9 [(0, .ref 0), (1, .int l1), (2, .int l2), (3, .int l3)] []) (σ : am_M) (l1 : Int32) (l2 : Int32) (l3 : Int32) (h : X4_visit_J107 n τ kont9 σ l1 l2 l3 = some res) : V (wX4 12 σ τ) 107 [(0, .ref 0), (1, .int l1), (2, .int l2), (3, .int l3)] [] := by
  unfold X4_visit_J107 at h
  refine hV.run 2 [] (ws' := wX4 12 σ τ) (pc' := 9) (ls' := [(3, .int (l3 + 1)), (0, .ref 0), (1, .int l1), (2, .int l2)]) (st' := []) (ps := []) rfl trivial ?_
  refine hV.pick [1, 2, 3, 0] (ls' := [(0, .ref 0), (1, .int l1), (2, .int l2), (3, .int (l3 + 1))]) rfl ?_
  exact hk9 σ l1 l2 (l3 + 1) h
def X4_visit_J101 (n : Nat) (τ : Nat → Int64) (kont42 : am_M → Int32 → Int32 → Int32 → Int32 → Int32 → Option am_M) (σ : am_M) (l1 : Int32) (l2 : Int32) (l3 : Int32) (l4 : Int32) (l5 : Int32) : Option am_M := kont42 σ l1 l2 l3 l4 (l5 + 1)
set_option maxRecDepth 100000 in
set_option maxHeartbeats 4000000 in
theorem p_X4_visit_J101 {l : Launch} {Post : Option Value → am_W → Prop} {V : am_VT} (hV : am_B l RX4 false 6 (am_cdT' tX4_visit) (am_rfL rfX4) none Post 28 V) (n : Nat) (τ : Nat → Int64) (res : am_M) (hP : Post none (wX4 12 res τ)) (kont42 : am_M → Int32 → Int32 → Int32 → Int32 → Int32 → Option am_M) (hk42 : ∀ (σ : am_M) (l1 : Int32) (l2 : Int32) (l3 : Int32) (l4 : Int32) (l5 : Int32), kont42 σ l1 l2 l3 l4 l5 = some res → V (wX4 12 σ τ) 42 [(0, .ref 0), (1, .int l1), (2, .int l2), (3, .int l3), (4, .int l4), (5, .int l5)] []) (σ : am_M) (l1 : Int32) (l2 : Int32) (l3 : Int32) (l4 : Int32) (l5 : Int32) (h : X4_visit_J101 n τ kont42 σ l1 l2 l3 l4 l5 = some res) : V (wX4 12 σ τ) 101 [(0, .ref 0), (1, .int l1), (2, .int l2), (3, .int l3), (4, .int l4), (5, .int l5)] [] := by
  unfold X4_visit_J101 at h
  refine hV.run 2 [] (ws' := wX4 12 σ τ) (pc' := 42) (ls' := [(5, .int (l5 + 1)), (0, .ref 0), (1, .int l1), (2, .int l2), (3, .int l3), (4, .int l4)]) (st' := []) (ps := []) rfl trivial ?_
  refine hV.pick [1, 2, 3, 4, 5, 0] (ls' := [(0, .ref 0), (1, .int l1), (2, .int l2), (3, .int l3), (4, .int l4), (5, .int (l5 + 1))]) rfl ?_
  exact hk42 σ l1 l2 l3 l4 (l5 + 1) h
def X4_visit_B42 (n : Nat) (τ : Nat → Int64) (kont9 : am_M → Int32 → Int32 → Int32 → Option am_M) (kont42 : am_M → Int32 → Int32 → Int32 → Int32 → Int32 → Option am_M) (σ : am_M) (l1 : Int32) (l2 : Int32) (l3 : Int32) (l4 : Int32) (l5 : Int32) : Option am_M := if l4 ≤ l5 then (X4_visit_J107 n τ kont9 σ l1 l2 l3) else (if (σ 0 11) = 0 then (X2_can n (am_sub σ 1) l3 l5).bind (fun q3 => if q3 = true then (X2_move n (am_sub σ 1) l3 l5).bind (fun q5 => (X2_goOn n (am_sub τ 1) (am_sub (am_put σ 1 19 q5) 1)).bind (fun q6 => (X4_noteTaker (am_put (am_put σ 1 19 q5) 1 19 q6)).bind (fun q7 => (X4_keep n q7).bind (fun q8 => (X4_load n q8 l1).bind (fun q9 => X4_visit_J101 n τ kont42 q9 l1 1 l3 l4 l5))))) else (X4_visit_J101 n τ kont42 σ l1 l2 l3 l4 l5)) else (X4_visit_J107 n τ kont9 σ l1 l2 l3))
def X4_visit_L42 (n : Nat) (τ : Nat → Int64) (kont9 : am_M → Int32 → Int32 → Int32 → Option am_M) : Nat → am_M → Int32 → Int32 → Int32 → Int32 → Int32 → Option am_M
 | 0 => fun _ _ _ _ _ _ => none
 | k + 1 => fun σ l1 l2 l3 l4 l5 => X4_visit_B42 n τ kont9 (X4_visit_L42 n τ kont9 k) σ l1 l2 l3 l4 l5
set_option maxRecDepth 100000 in
set_option maxHeartbeats 4000000 in
theorem p_X4_visit_B42 {l : Launch} {Post : Option Value → am_W → Prop} {V : am_VT} (hV : am_B l RX4 false 6 (am_cdT' tX4_visit) (am_rfL rfX4) none Post 28 V) (n : Nat) (τ : Nat → Int64) (res : am_M) (hP : Post none (wX4 12 res τ)) (kont9 : am_M → Int32 → Int32 → Int32 → Option am_M) (hk9 : ∀ (σ : am_M) (l1 : Int32) (l2 : Int32) (l3 : Int32), kont9 σ l1 l2 l3 = some res → V (wX4 12 σ τ) 9 [(0, .ref 0), (1, .int l1), (2, .int l2), (3, .int l3)] []) (kont42 : am_M → Int32 → Int32 → Int32 → Int32 → Int32 → Option am_M) (hk42 : ∀ (σ : am_M) (l1 : Int32) (l2 : Int32) (l3 : Int32) (l4 : Int32) (l5 : Int32), kont42 σ l1 l2 l3 l4 l5 = some res → V (wX4 12 σ τ) 42 [(0, .ref 0), (1, .int l1), (2, .int l2), (3, .int l3), (4, .int l4), (5, .int l5)] []) (σ : am_M) (l1 : Int32) (l2 : Int32) (l3 : Int32) (l4 : Int32) (l5 : Int32) (h : X4_visit_B42 n τ kont9 kont42 σ l1 l2 l3 l4 l5 = some res) : V (wX4 12 σ τ) 42 [(0, .ref 0), (1, .int l1), (2, .int l2), (3, .int l3), (4, .int l4), (5, .int l5)] [] := by
  unfold X4_visit_B42 at h
  by_cases c1 : l4 ≤ l5
  · rw [if_pos c1] at h
    refine hV.run 3 [1] (ws' := wX4 12 σ τ) (pc' := 107) (ls' := [(0, .ref 0), (1, .int l1), (2, .int l2), (3, .int l3), (4, .int l4), (5, .int l5)]) (st' := []) (ps := [l4 ≤ l5]) rfl ⟨c1, trivial⟩ ?_
    refine hV.pick [0, 1, 2, 3] (ls' := [(0, .ref 0), (1, .int l1), (2, .int l2), (3, .int l3)]) rfl ?_
    exact p_X4_visit_J107 hV n τ res hP kont9 hk9 σ l1 l2 l3 h
  · rw [if_neg c1] at h
    by_cases c2 : (σ 0 11) = 0
    · rw [if_pos c2] at h
      refine hV.run 10 [0, 0] (ws' := wX4 12 σ τ) (pc' := 63) (ls' := [(0, .ref 0), (1, .int l1), (2, .int l2), (3, .int l3), (4, .int l4), (5, .int l5)]) (st' := [.int l5, .int l3, .ref 1]) (ps := [¬ l4 ≤ l5, (σ 0 11) = 0]) rfl ⟨c1, c2, trivial⟩ ?_
      obtain ⟨q3, hq3, h⟩ := am_bind h
      refine hV.cBi 1 19 [] (as := [.int l3, .int l5]) (rest := []) (st := [.int l5, .int l3, .ref 1]) (ws2 := wX4 12 σ τ) (pc2 := 66) kX4_96 (c_X2_can l n (am_sub σ 1) (am_sub τ 1) l3 l5 q3 hq3) rfl rfl rfl rfl rfl rfl rfl rfl rfl rfl rfl rfl rfl rfl ?_
      by_cases c4 : q3 = true
      · rw [if_pos c4] at h
        refine hV.run 5 [0] (ws' := wX4 12 σ τ) (pc' := 76) (ls' := [(0, .ref 0), (1, .int l1), (2, .int l2), (3, .int l3), (4, .int l4), (5, .int l5)]) (st' := [.int l5, .int l3, .ref 1]) (ps := [¬ (b2i q3) = 0]) rfl ⟨(b2i_t c4), trivial⟩ ?_
        obtain ⟨q5, hq5, h⟩ := am_bind h
        refine hV.cBv 1 19 [] (as := [.int l3, .int l5]) (rest := []) (st := [.int l5, .int l3, .ref 1]) (ws2 := wX4 12 (am_put σ 1 19 q5) τ) (pc2 := 79) kX4_100 (c_X2_move l n (am_sub σ 1) (am_sub τ 1) l3 l5 q5 hq5) rfl rfl rfl rfl rfl rfl rfl rfl rfl rfl rfl rfl rfl rfl ?_
        refine hV.run 2 [] (ws' := wX4 12 (am_put σ 1 19 q5) τ) (pc' := 83) (ls' := [(0, .ref 0), (1, .int l1), (2, .int l2), (3, .int l3), (4, .int l4), (5, .int l5)]) (st' := [.ref 1]) (ps := []) rfl trivial ?_
        obtain ⟨q6, hq6, h⟩ := am_bind h
        refine hV.cBv 1 19 [] (as := []) (rest := []) (st := [.ref 1]) (ws2 := wX4 12 (am_put (am_put σ 1 19 q5) 1 19 q6) τ) (pc2 := 86) kX4_104 (c_X2_goOn l n (am_sub τ 1) (am_sub (am_put σ 1 19 q5) 1) q6 hq6) rfl rfl rfl rfl rfl rfl rfl rfl rfl rfl rfl rfl rfl rfl ?_
        refine hV.run 1 [] (ws' := wX4 12 (am_put (am_put σ 1 19 q5) 1 19 q6) τ) (pc' := 87) (ls' := [(0, .ref 0), (1, .int l1), (2, .int l2), (3, .int l3), (4, .int l4), (5, .int l5)]) (st' := [.ref 0]) (ps := []) rfl trivial ?_
        obtain ⟨q7, hq7, h⟩ := am_bind h
        refine hV.cOv (as := []) (rest := []) (st := [.ref 0]) (ws2 := wX4 12 q7 τ) (pc2 := 90) kX4_107 (c_X4_noteTaker l (am_put (am_put σ 1 19 q5) 1 19 q6) τ q7 hq7) rfl rfl rfl rfl rfl rfl rfl rfl rfl ?_
        refine hV.run 1 [] (ws' := wX4 12 q7 τ) (pc' := 91) (ls' := [(0, .ref 0), (1, .int l1), (2, .int l2), (3, .int l3), (4, .int l4), (5, .int l5)]) (st' := [.ref 0]) (ps := []) rfl trivial ?_
        obtain ⟨q8, hq8, h⟩ := am_bind h
        refine hV.cOv (as := []) (rest := []) (st := [.ref 0]) (ws2 := wX4 12 q8 τ) (pc2 := 94) kX4_82 (c_X4_keep l n q7 τ q8 hq8) rfl rfl rfl rfl rfl rfl rfl rfl rfl ?_
        refine hV.run 2 [] (ws' := wX4 12 q8 τ) (pc' := 96) (ls' := [(0, .ref 0), (1, .int l1), (2, .int l2), (3, .int l3), (4, .int l4), (5, .int l5)]) (st' := [.int l1, .ref 0]) (ps := []) rfl trivial ?_
        obtain ⟨q9, hq9, h⟩ := am_bind h
        refine hV.cOv (as := [.int l1]) (rest := []) (st := [.int l1, .ref 0]) (ws2 := wX4 12 q9 τ) (pc2 := 99) kX4_89 (c_X4_load l n q8 τ l1 q9 hq9) rfl rfl rfl rfl rfl rfl rfl rfl rfl ?_
        refine hV.run 2 [] (ws' := wX4 12 q9 τ) (pc' := 101) (ls' := [(2, .int 1), (0, .ref 0), (1, .int l1), (3, .int l3), (4, .int l4), (5, .int l5)]) (st' := []) (ps := []) rfl trivial ?_
        refine hV.pick [1, 2, 0, 3, 4, 5] (ls' := [(0, .ref 0), (1, .int l1), (2, .int 1), (3, .int l3), (4, .int l4), (5, .int l5)]) rfl ?_
        exact p_X4_visit_J101 hV n τ res hP kont42 hk42 q9 l1 1 l3 l4 l5 h
      · rw [if_neg c4] at h
        refine hV.run 1 [1] (ws' := wX4 12 σ τ) (pc' := 101) (ls' := [(0, .ref 0), (1, .int l1), (2, .int l2), (3, .int l3), (4, .int l4), (5, .int l5)]) (st' := []) (ps := [(b2i q3) = 0]) rfl ⟨(b2i_f c4), trivial⟩ ?_
        exact p_X4_visit_J101 hV n τ res hP kont42 hk42 σ l1 l2 l3 l4 l5 h
    · rw [if_neg c2] at h
      refine hV.run 6 [0, 1] (ws' := wX4 12 σ τ) (pc' := 107) (ls' := [(0, .ref 0), (1, .int l1), (2, .int l2), (3, .int l3), (4, .int l4), (5, .int l5)]) (st' := []) (ps := [¬ l4 ≤ l5, ¬ (σ 0 11) = 0]) rfl ⟨c1, c2, trivial⟩ ?_
      refine hV.pick [0, 1, 2, 3] (ls' := [(0, .ref 0), (1, .int l1), (2, .int l2), (3, .int l3)]) rfl ?_
      exact p_X4_visit_J107 hV n τ res hP kont9 hk9 σ l1 l2 l3 h
theorem p_X4_visit_L42 {l : Launch} {Post : Option Value → am_W → Prop} {V : am_VT} (hV : am_B l RX4 false 6 (am_cdT' tX4_visit) (am_rfL rfX4) none Post 28 V) (n : Nat) (τ : Nat → Int64) (res : am_M) (hP : Post none (wX4 12 res τ)) (kont9 : am_M → Int32 → Int32 → Int32 → Option am_M) (hk9 : ∀ (σ : am_M) (l1 : Int32) (l2 : Int32) (l3 : Int32), kont9 σ l1 l2 l3 = some res → V (wX4 12 σ τ) 9 [(0, .ref 0), (1, .int l1), (2, .int l2), (3, .int l3)] []) : ∀ (k : Nat) (σ : am_M) (l1 : Int32) (l2 : Int32) (l3 : Int32) (l4 : Int32) (l5 : Int32) (h : X4_visit_L42 n τ kont9 k σ l1 l2 l3 l4 l5 = some res), V (wX4 12 σ τ) 42 [(0, .ref 0), (1, .int l1), (2, .int l2), (3, .int l3), (4, .int l4), (5, .int l5)] [] := by
  intro k
  induction k with
  | zero => intro σ l1 l2 l3 l4 l5 h; cases h
  | succ k ih => intro σ l1 l2 l3 l4 l5 h; exact p_X4_visit_B42 hV n τ res hP kont9 hk9 _ ih σ l1 l2 l3 l4 l5 h
def X4_visit_J37 (n : Nat) (τ : Nat → Int64) (kont9 : am_M → Int32 → Int32 → Int32 → Option am_M) (σ : am_M) (l1 : Int32) (l2 : Int32) (l3 : Int32) (s0 : Int32) : Option am_M := X4_visit_L42 n τ kont9 n σ l1 l2 l3 s0 0
set_option maxRecDepth 100000 in
set_option maxHeartbeats 4000000 in
theorem p_X4_visit_J37 {l : Launch} {Post : Option Value → am_W → Prop} {V : am_VT} (hV : am_B l RX4 false 6 (am_cdT' tX4_visit) (am_rfL rfX4) none Post 28 V) (n : Nat) (τ : Nat → Int64) (res : am_M) (hP : Post none (wX4 12 res τ)) (kont9 : am_M → Int32 → Int32 → Int32 → Option am_M) (hk9 : ∀ (σ : am_M) (l1 : Int32) (l2 : Int32) (l3 : Int32), kont9 σ l1 l2 l3 = some res → V (wX4 12 σ τ) 9 [(0, .ref 0), (1, .int l1), (2, .int l2), (3, .int l3)] []) (σ : am_M) (l1 : Int32) (l2 : Int32) (l3 : Int32) (s0 : Int32) (h : X4_visit_J37 n τ kont9 σ l1 l2 l3 s0 = some res) : V (wX4 12 σ τ) 37 [(0, .ref 0), (1, .int l1), (2, .int l2), (3, .int l3)] [.int s0] := by
  unfold X4_visit_J37 at h
  refine hV.run 3 [] (ws' := wX4 12 σ τ) (pc' := 42) (ls' := [(5, .int 0), (4, .int s0), (0, .ref 0), (1, .int l1), (2, .int l2), (3, .int l3)]) (st' := []) (ps := []) rfl trivial ?_
  refine hV.pick [2, 3, 4, 5, 1, 0] (ls' := [(0, .ref 0), (1, .int l1), (2, .int l2), (3, .int l3), (4, .int s0), (5, .int 0)]) rfl ?_
  exact p_X4_visit_L42 hV n τ res hP kont9 hk9 n σ l1 l2 l3 s0 0 h
def X4_visit_B9 (n : Nat) (τ : Nat → Int64) (kont9 : am_M → Int32 → Int32 → Int32 → Option am_M) (σ : am_M) (l1 : Int32) (l2 : Int32) (l3 : Int32) : Option am_M := if (σ 0 13) ≤ l3 then (if l2 = 0 then (X2_outcome n (am_sub σ 1)).bind (fun q3 => (X4_addEnding n (sC σ 25 (jput 200 (σ 25) l1 q3)) l1).bind (fun q4 => some q4)) else (some σ)) else (if (X2_doing (am_sub σ 1) l3) = 4 then (X4_visit_J37 n τ kont9 σ l1 l2 l3 (σ 0 13)) else (X4_visit_J37 n τ kont9 σ l1 l2 l3 1))
def X4_visit_L9 (n : Nat) (τ : Nat → Int64) : Nat → am_M → Int32 → Int32 → Int32 → Option am_M
 | 0 => fun _ _ _ _ => none
 | k + 1 => fun σ l1 l2 l3 => X4_visit_B9 n τ (X4_visit_L9 n τ k) σ l1 l2 l3
set_option maxRecDepth 100000 in
set_option maxHeartbeats 4000000 in
theorem p_X4_visit_B9 {l : Launch} {Post : Option Value → am_W → Prop} {V : am_VT} (hV : am_B l RX4 false 6 (am_cdT' tX4_visit) (am_rfL rfX4) none Post 28 V) (n : Nat) (τ : Nat → Int64) (res : am_M) (hP : Post none (wX4 12 res τ)) (kont9 : am_M → Int32 → Int32 → Int32 → Option am_M) (hk9 : ∀ (σ : am_M) (l1 : Int32) (l2 : Int32) (l3 : Int32), kont9 σ l1 l2 l3 = some res → V (wX4 12 σ τ) 9 [(0, .ref 0), (1, .int l1), (2, .int l2), (3, .int l3)] []) (σ : am_M) (l1 : Int32) (l2 : Int32) (l3 : Int32) (h : X4_visit_B9 n τ kont9 σ l1 l2 l3 = some res) : V (wX4 12 σ τ) 9 [(0, .ref 0), (1, .int l1), (2, .int l2), (3, .int l3)] [] := by
  unfold X4_visit_B9 at h
  by_cases c1 : (σ 0 13) ≤ l3
  · rw [if_pos c1] at h
    by_cases c2 : l2 = 0
    · rw [if_pos c2] at h
      refine hV.run 11 [1, 0] (ws' := wX4 12 σ τ) (pc' := 126) (ls' := [(0, .ref 0), (1, .int l1), (2, .int l2), (3, .int l3)]) (st' := [.ref 1, .int l1, .ref 25]) (ps := [(σ 0 13) ≤ l3, l2 = 0]) rfl ⟨c1, c2, trivial⟩ ?_
      obtain ⟨q3, hq3, h⟩ := am_bind h
      refine hV.cBi 1 19 [] (as := []) (rest := [.int l1, .ref 25]) (st := [.ref 1, .int l1, .ref 25]) (ws2 := wX4 12 σ τ) (pc2 := 129) kX4_110 (c_X2_outcome l n (am_sub σ 1) (am_sub τ 1) q3 hq3) rfl rfl rfl rfl rfl rfl rfl rfl rfl rfl rfl rfl rfl rfl ?_
      refine hV.cSv (as := [.ref 0, .int l1, .int q3]) (js := [25]) (rest := []) (st := [.int q3, .int l1, .ref 25]) (ws2 := wX4 12 (sC σ 25 (jput 200 (σ 25) l1 q3)) τ) (pc2 := 132) kX4_68 (c_put l 1 200 (by decide) (σ 25) l1 q3) rfl rfl rfl rfl rfl rfl rfl rfl rfl rfl ?_
      refine hV.run 2 [] (ws' := wX4 12 (sC σ 25 (jput 200 (σ 25) l1 q3)) τ) (pc' := 134) (ls' := [(0, .ref 0), (1, .int l1), (2, .int l2), (3, .int l3)]) (st' := [.int l1, .ref 0]) (ps := []) rfl trivial ?_
      obtain ⟨q4, hq4, h⟩ := am_bind h
      refine hV.cOv (as := [.int l1]) (rest := []) (st := [.int l1, .ref 0]) (ws2 := wX4 12 q4 τ) (pc2 := 137) kX4_114 (c_X4_addEnding l n (sC σ 25 (jput 200 (σ 25) l1 q3)) τ l1 q4 hq4) rfl rfl rfl rfl rfl rfl rfl rfl rfl ?_
      cases h
      exact hV.rv rfl rfl rfl hP
    · rw [if_neg c2] at h
      refine hV.run 6 [1, 1] (ws' := wX4 12 σ τ) (pc' := 137) (ls' := [(0, .ref 0), (1, .int l1), (2, .int l2), (3, .int l3)]) (st' := []) (ps := [(σ 0 13) ≤ l3, ¬ l2 = 0]) rfl ⟨c1, c2, trivial⟩ ?_
      cases h
      exact hV.rv rfl rfl rfl hP
  · rw [if_neg c1] at h
    refine hV.run 7 [0] (ws' := wX4 12 σ τ) (pc' := 22) (ls' := [(0, .ref 0), (1, .int l1), (2, .int l2), (3, .int l3)]) (st' := [.int l3, .ref 1]) (ps := [¬ (σ 0 13) ≤ l3]) rfl ⟨c1, trivial⟩ ?_
    refine hV.cBi 1 19 [] (as := [.int l3]) (rest := []) (st := [.int l3, .ref 1]) (ws2 := wX4 12 σ τ) (pc2 := 25) kX4_92 (c_X2_doing l (am_sub σ 1) (am_sub τ 1) l3) rfl rfl rfl rfl rfl rfl rfl rfl rfl rfl rfl rfl rfl rfl ?_
    by_cases c5 : (X2_doing (am_sub σ 1) l3) = 4
    · rw [if_pos c5] at h
      refine hV.run 5 [0] (ws' := wX4 12 σ τ) (pc' := 37) (ls' := [(0, .ref 0), (1, .int l1), (2, .int l2), (3, .int l3)]) (st' := [.int (σ 0 13)]) (ps := [(X2_doing (am_sub σ 1) l3) = 4]) rfl ⟨c5, trivial⟩ ?_
      exact p_X4_visit_J37 hV n τ res hP kont9 hk9 σ l1 l2 l3 (σ 0 13) h
    · rw [if_neg c5] at h
      refine hV.run 3 [1] (ws' := wX4 12 σ τ) (pc' := 37) (ls' := [(0, .ref 0), (1, .int l1), (2, .int l2), (3, .int l3)]) (st' := [.int 1]) (ps := [¬ (X2_doing (am_sub σ 1) l3) = 4]) rfl ⟨c5, trivial⟩ ?_
      exact p_X4_visit_J37 hV n τ res hP kont9 hk9 σ l1 l2 l3 1 h
theorem p_X4_visit_L9 {l : Launch} {Post : Option Value → am_W → Prop} {V : am_VT} (hV : am_B l RX4 false 6 (am_cdT' tX4_visit) (am_rfL rfX4) none Post 28 V) (n : Nat) (τ : Nat → Int64) (res : am_M) (hP : Post none (wX4 12 res τ)) : ∀ (k : Nat) (σ : am_M) (l1 : Int32) (l2 : Int32) (l3 : Int32) (h : X4_visit_L9 n τ k σ l1 l2 l3 = some res), V (wX4 12 σ τ) 9 [(0, .ref 0), (1, .int l1), (2, .int l2), (3, .int l3)] [] := by
  intro k
  induction k with
  | zero => intro σ l1 l2 l3 h; cases h
  | succ k ih => intro σ l1 l2 l3 h; exact p_X4_visit_B9 hV n τ res hP _ ih σ l1 l2 l3 h
def X4_visit (n : Nat) (τ : Nat → Int64) (σ : am_M) (a1 : Int32) : Option am_M := (X4_load n σ a1).bind (fun q1 => X4_visit_L9 n τ n q1 a1 0 0)
set_option maxRecDepth 100000 in
set_option maxHeartbeats 4000000 in
theorem c_X4_visit (l : Launch) (n : Nat) (τ : Nat → Int64) (σ : am_M) (a1 : Int32) (res : am_M) (h : X4_visit n τ σ a1 = some res) : am_Con l yX4_visit cX4_visit 6 none 6 [.ref 0, .int a1] (wX4 12 σ τ) (fun (r : Option Value) (w : am_W) => r = none ∧ w = (wX4 12 res τ)) := by
  refine am_metn (n0 := 28) (own := RX4) (cd := am_cdT' tX4_visit) (rf := am_rfL rfX4) (ini := false) rfl (by decide +kernel) rfl (by decide) dX4_visit rfX4_ok (Nat.le_of_ble_eq_true rfl) ?_
  intro V hV
  have hP : (fun (r : Option Value) (w : am_W) => r = none ∧ w = (wX4 12 res τ)) none (wX4 12 res τ) := ⟨rfl, rfl⟩
  show V (wX4 12 σ τ) 0 [(0, .ref 0), (1, .int a1)] []
  unfold X4_visit at h
  refine hV.run 2 [] (ws' := wX4 12 σ τ) (pc' := 2) (ls' := [(0, .ref 0), (1, .int a1)]) (st' := [.int a1, .ref 0]) (ps := []) rfl trivial ?_
  obtain ⟨q1, hq1, h⟩ := am_bind h
  refine hV.cOv (as := [.int a1]) (rest := []) (st := [.int a1, .ref 0]) (ws2 := wX4 12 q1 τ) (pc2 := 5) kX4_89 (c_X4_load l n σ τ a1 q1 hq1) rfl rfl rfl rfl rfl rfl rfl rfl rfl ?_
  refine hV.run 4 [] (ws' := wX4 12 q1 τ) (pc' := 9) (ls' := [(3, .int 0), (2, .int 0), (0, .ref 0), (1, .int a1)]) (st' := []) (ps := []) rfl trivial ?_
  refine hV.pick [2, 3, 1, 0] (ls' := [(0, .ref 0), (1, .int a1), (2, .int 0), (3, .int 0)]) rfl ?_
  exact p_X4_visit_L9 hV n τ res hP n q1 a1 0 0 h

def X4_explore_B116 (n : Nat) (kont116 : am_M → (Nat → Int64) → Int32 → Option (am_M × (Nat → Int64) × Nat)) (σ : am_M) (τ : Nat → Int64) (l6 : Int32) : Option (am_M × (Nat → Int64) × Nat) := if 200 ≤ l6 then (some (σ, τ, 12)) else (if (σ 0 9) ≤ l6 then (some (σ, τ, 12)) else (if (σ 0 11) = 0 then (X4_visit n τ σ l6).bind (fun q4 => kont116 q4 τ (l6 + 1)) else (some (σ, τ, 12))))
def X4_explore_L116 (n : Nat) : Nat → am_M → (Nat → Int64) → Int32 → Option (am_M × (Nat → Int64) × Nat)
 | 0 => fun _ _ _ => none
 | k + 1 => fun σ τ l6 => X4_explore_B116 n (X4_explore_L116 n k) σ τ l6
set_option maxRecDepth 100000 in
set_option maxHeartbeats 4000000 in
theorem p_X4_explore_B116 {l : Launch} {Post : Option Value → am_W → Prop} {V : am_VT} (hV : am_B l RX4 false 7 (am_cdT' tX4_explore) (am_rfL rfX4) none Post 28 V) (n : Nat) (res : (am_M × (Nat → Int64) × Nat)) (hP : Post none (wX4 res.2.2 res.1 res.2.1)) (kont116 : am_M → (Nat → Int64) → Int32 → Option (am_M × (Nat → Int64) × Nat)) (hk116 : ∀ (σ : am_M) (τ : Nat → Int64) (l6 : Int32), kont116 σ τ l6 = some res → V (wX4 12 σ τ) 116 [(0, .ref 0), (6, .int l6)] []) (σ : am_M) (τ : Nat → Int64) (l6 : Int32) (h : X4_explore_B116 n kont116 σ τ l6 = some res) : V (wX4 12 σ τ) 116 [(0, .ref 0), (6, .int l6)] [] := by
  unfold X4_explore_B116 at h
  by_cases c1 : 200 ≤ l6
  · rw [if_pos c1] at h
    refine hV.run 3 [1] (ws' := wX4 12 σ τ) (pc' := 152) (ls' := [(0, .ref 0), (6, .int l6)]) (st' := []) (ps := [200 ≤ l6]) rfl ⟨c1, trivial⟩ ?_
    cases h
    exact hV.rv rfl rfl rfl hP
  · rw [if_neg c1] at h
    by_cases c2 : (σ 0 9) ≤ l6
    · rw [if_pos c2] at h
      refine hV.run 7 [0, 1] (ws' := wX4 12 σ τ) (pc' := 152) (ls' := [(0, .ref 0), (6, .int l6)]) (st' := []) (ps := [¬ 200 ≤ l6, (σ 0 9) ≤ l6]) rfl ⟨c1, c2, trivial⟩ ?_
      cases h
      exact hV.rv rfl rfl rfl hP
    · rw [if_neg c2] at h
      by_cases c3 : (σ 0 11) = 0
      · rw [if_pos c3] at h
        refine hV.run 12 [0, 0, 0] (ws' := wX4 12 σ τ) (pc' := 143) (ls' := [(0, .ref 0), (6, .int l6)]) (st' := [.int l6, .ref 0]) (ps := [¬ 200 ≤ l6, ¬ (σ 0 9) ≤ l6, (σ 0 11) = 0]) rfl ⟨c1, c2, c3, trivial⟩ ?_
        obtain ⟨q4, hq4, h⟩ := am_bind h
        refine hV.cOv (as := [.int l6]) (rest := []) (st := [.int l6, .ref 0]) (ws2 := wX4 12 q4 τ) (pc2 := 146) kX4_85 (c_X4_visit l n τ σ l6 q4 hq4) rfl rfl rfl rfl rfl rfl rfl rfl rfl ?_
        refine hV.run 2 [] (ws' := wX4 12 q4 τ) (pc' := 116) (ls' := [(6, .int (l6 + 1)), (0, .ref 0)]) (st' := []) (ps := []) rfl trivial ?_
        refine hV.pick [1, 0] (ls' := [(0, .ref 0), (6, .int (l6 + 1))]) rfl ?_
        exact hk116 q4 τ (l6 + 1) h
      · rw [if_neg c3] at h
        refine hV.run 10 [0, 0, 1] (ws' := wX4 12 σ τ) (pc' := 152) (ls' := [(0, .ref 0), (6, .int l6)]) (st' := []) (ps := [¬ 200 ≤ l6, ¬ (σ 0 9) ≤ l6, ¬ (σ 0 11) = 0]) rfl ⟨c1, c2, c3, trivial⟩ ?_
        cases h
        exact hV.rv rfl rfl rfl hP
theorem p_X4_explore_L116 {l : Launch} {Post : Option Value → am_W → Prop} {V : am_VT} (hV : am_B l RX4 false 7 (am_cdT' tX4_explore) (am_rfL rfX4) none Post 28 V) (n : Nat) (res : (am_M × (Nat → Int64) × Nat)) (hP : Post none (wX4 res.2.2 res.1 res.2.1)) : ∀ (k : Nat) (σ : am_M) (τ : Nat → Int64) (l6 : Int32) (h : X4_explore_L116 n k σ τ l6 = some res), V (wX4 12 σ τ) 116 [(0, .ref 0), (6, .int l6)] [] := by
  intro k
  induction k with
  | zero => intro σ τ l6 h; cases h
  | succ k ih => intro σ τ l6 h; exact p_X4_explore_B116 hV n res hP _ ih σ τ l6 h
def X4_explore_J34 (n : Nat) (σ : am_M) (τ : Nat → Int64) (l2 : Int32) (l3 : Int32) (l4 : Int64) : Option (am_M × (Nat → Int64) × Nat) := (X2_begin n (am_sub (sC (sC (sC (sC σ 0 (am_u (am_u (am_u (am_u (am_u (am_u (σ 0) 9 0) 10 0) 11 0) 12 1) 13 l2) 14 l3)) 22 (jput 201 (σ 22) 0 0)) 24 (jfill 512 (σ 24) 0)) 27 (jfill 320 (σ 27) 0)) 1) (am_sub (upd64 τ 0 l4) 1) l2 l3 0 0 l4).bind (fun q1 => (X4_keep n (am_put (sC (sC (sC (sC σ 0 (am_u (am_u (am_u (am_u (am_u (am_u (σ 0) 9 0) 10 0) 11 0) 12 1) 13 l2) 14 l3)) 22 (jput 201 (σ 22) 0 0)) 24 (jfill 512 (σ 24) 0)) 27 (jfill 320 (σ 27) 0)) 1 19 q1.1)).bind (fun q2 => X4_explore_L116 n n q2 (am_put (upd64 τ 0 l4) 1 19 q1.2) 0))
set_option maxRecDepth 100000 in
set_option maxHeartbeats 4000000 in
theorem p_X4_explore_J34 {l : Launch} {Post : Option Value → am_W → Prop} {V : am_VT} (hV : am_B l RX4 false 7 (am_cdT' tX4_explore) (am_rfL rfX4) none Post 28 V) (n : Nat) (res : (am_M × (Nat → Int64) × Nat)) (hP : Post none (wX4 res.2.2 res.1 res.2.1)) (σ : am_M) (τ : Nat → Int64) (l2 : Int32) (l3 : Int32) (l4 : Int64) (h : X4_explore_J34 n σ τ l2 l3 l4 = some res) : V (wX4 28 σ τ) 34 [(0, .ref 0), (1, .ref 12), (2, .int l2), (3, .int l3), (4, .long l4)] [] := by
  unfold X4_explore_J34 at h
  refine hV.run 25 [] (ws' := wX4 28 (sC σ 0 (am_u (am_u (am_u (am_u (am_u (am_u (σ 0) 9 0) 10 0) 11 0) 12 1) 13 l2) 14 l3)) (upd64 τ 0 l4)) (pc' := 76) (ls' := [(0, .ref 0), (1, .ref 12), (2, .int l2), (3, .int l3), (4, .long l4)]) (st' := [.int 0, .int 0, .ref 22]) (ps := [(1 : Int32) = 0 ∨ (1 : Int32) = 1, (0 : Int32) = 0 ∨ (0 : Int32) = 1]) rfl ⟨(Or.inr rfl), (Or.inl rfl), trivial⟩ ?_
  refine hV.cSv (as := [.ref 0, .int 0, .int 0]) (js := [22]) (rest := []) (st := [.int 0, .int 0, .ref 22]) (ws2 := wX4 28 (sC (sC σ 0 (am_u (am_u (am_u (am_u (am_u (am_u (σ 0) 9 0) 10 0) 11 0) 12 1) 13 l2) 14 l3)) 22 (jput 201 (σ 22) 0 0)) (upd64 τ 0 l4)) (pc2 := 79) kX4_68 (c_put l 1 201 (by decide) (σ 22) 0 0) rfl rfl rfl rfl rfl rfl rfl rfl rfl rfl ?_
  refine hV.run 3 [] (ws' := wX4 28 (sC (sC σ 0 (am_u (am_u (am_u (am_u (am_u (am_u (σ 0) 9 0) 10 0) 11 0) 12 1) 13 l2) 14 l3)) 22 (jput 201 (σ 22) 0 0)) (upd64 τ 0 l4)) (pc' := 84) (ls' := [(0, .ref 0), (1, .ref 12), (2, .int l2), (3, .int l3), (4, .long l4)]) (st' := [.int 0, .ref 24]) (ps := []) rfl trivial ?_
  refine hV.cSv (as := [.ref 0, .int 0]) (js := [24]) (rest := []) (st := [.int 0, .ref 24]) (ws2 := wX4 28 (sC (sC (sC σ 0 (am_u (am_u (am_u (am_u (am_u (am_u (σ 0) 9 0) 10 0) 11 0) 12 1) 13 l2) 14 l3)) 22 (jput 201 (σ 22) 0 0)) 24 (jfill 512 (σ 24) 0)) (upd64 τ 0 l4)) (pc2 := 87) kX4_72 (c_fill l 1 512 (by decide) (σ 24) 0) rfl rfl rfl rfl rfl rfl rfl rfl rfl rfl ?_
  refine hV.run 3 [] (ws' := wX4 28 (sC (sC (sC σ 0 (am_u (am_u (am_u (am_u (am_u (am_u (σ 0) 9 0) 10 0) 11 0) 12 1) 13 l2) 14 l3)) 22 (jput 201 (σ 22) 0 0)) 24 (jfill 512 (σ 24) 0)) (upd64 τ 0 l4)) (pc' := 92) (ls' := [(0, .ref 0), (1, .ref 12), (2, .int l2), (3, .int l3), (4, .long l4)]) (st' := [.int 0, .ref 27]) (ps := []) rfl trivial ?_
  refine hV.cSv (as := [.ref 0, .int 0]) (js := [27]) (rest := []) (st := [.int 0, .ref 27]) (ws2 := wX4 28 (sC (sC (sC (sC σ 0 (am_u (am_u (am_u (am_u (am_u (am_u (σ 0) 9 0) 10 0) 11 0) 12 1) 13 l2) 14 l3)) 22 (jput 201 (σ 22) 0 0)) 24 (jfill 512 (σ 24) 0)) 27 (jfill 320 (σ 27) 0)) (upd64 τ 0 l4)) (pc2 := 95) kX4_72 (c_fill l 1 320 (by decide) (σ 27) 0) rfl rfl rfl rfl rfl rfl rfl rfl rfl rfl ?_
  refine hV.run 8 [] (ws' := wX4 28 (sC (sC (sC (sC σ 0 (am_u (am_u (am_u (am_u (am_u (am_u (σ 0) 9 0) 10 0) 11 0) 12 1) 13 l2) 14 l3)) 22 (jput 201 (σ 22) 0 0)) 24 (jfill 512 (σ 24) 0)) 27 (jfill 320 (σ 27) 0)) (upd64 τ 0 l4)) (pc' := 106) (ls' := [(0, .ref 0), (1, .ref 12), (2, .int l2), (3, .int l3), (4, .long l4)]) (st' := [.long l4, .int 0, .int 0, .int l3, .int l2, .ref 12, .ref 1]) (ps := []) rfl trivial ?_
  obtain ⟨q1, hq1, h⟩ := am_bind h
  refine hV.cBv 1 19 [28] (as := [.ref 11, .int l2, .int l3, .int 0, .int 0, .long l4]) (rest := []) (st := [.long l4, .int 0, .int 0, .int l3, .int l2, .ref 12, .ref 1]) (ws2 := wX4 12 (am_put (sC (sC (sC (sC σ 0 (am_u (am_u (am_u (am_u (am_u (am_u (σ 0) 9 0) 10 0) 11 0) 12 1) 13 l2) 14 l3)) 22 (jput 201 (σ 22) 0 0)) 24 (jfill 512 (σ 24) 0)) 27 (jfill 320 (σ 27) 0)) 1 19 q1.1) (am_put (upd64 τ 0 l4) 1 19 q1.2)) (pc2 := 109) kX4_78 (c_X2_begin l n (am_sub (sC (sC (sC (sC σ 0 (am_u (am_u (am_u (am_u (am_u (am_u (σ 0) 9 0) 10 0) 11 0) 12 1) 13 l2) 14 l3)) 22 (jput 201 (σ 22) 0 0)) 24 (jfill 512 (σ 24) 0)) 27 (jfill 320 (σ 27) 0)) 1) (am_sub (upd64 τ 0 l4) 1) l2 l3 0 0 l4 q1 hq1) rfl rfl rfl rfl rfl rfl rfl rfl rfl rfl rfl rfl rfl rfl ?_
  refine hV.run 1 [] (ws' := wX4 12 (am_put (sC (sC (sC (sC σ 0 (am_u (am_u (am_u (am_u (am_u (am_u (σ 0) 9 0) 10 0) 11 0) 12 1) 13 l2) 14 l3)) 22 (jput 201 (σ 22) 0 0)) 24 (jfill 512 (σ 24) 0)) 27 (jfill 320 (σ 27) 0)) 1 19 q1.1) (am_put (upd64 τ 0 l4) 1 19 q1.2)) (pc' := 110) (ls' := [(0, .ref 0), (1, .ref 12), (2, .int l2), (3, .int l3), (4, .long l4)]) (st' := [.ref 0]) (ps := []) rfl trivial ?_
  obtain ⟨q2, hq2, h⟩ := am_bind h
  refine hV.cOv (as := []) (rest := []) (st := [.ref 0]) (ws2 := wX4 12 q2 (am_put (upd64 τ 0 l4) 1 19 q1.2)) (pc2 := 113) kX4_82 (c_X4_keep l n (am_put (sC (sC (sC (sC σ 0 (am_u (am_u (am_u (am_u (am_u (am_u (σ 0) 9 0) 10 0) 11 0) 12 1) 13 l2) 14 l3)) 22 (jput 201 (σ 22) 0 0)) 24 (jfill 512 (σ 24) 0)) 27 (jfill 320 (σ 27) 0)) 1 19 q1.1) (am_put (upd64 τ 0 l4) 1 19 q1.2) q2 hq2) rfl rfl rfl rfl rfl rfl rfl rfl rfl ?_
  refine hV.run 2 [] (ws' := wX4 12 q2 (am_put (upd64 τ 0 l4) 1 19 q1.2)) (pc' := 116) (ls' := [(6, .int 0), (0, .ref 0), (1, .ref 12), (2, .int l2), (3, .int l3), (4, .long l4)]) (st' := []) (ps := []) rfl trivial ?_
  refine hV.pick [1, 0] (ls' := [(0, .ref 0), (6, .int 0)]) rfl ?_
  exact p_X4_explore_L116 hV n res hP n q2 (am_put (upd64 τ 0 l4) 1 19 q1.2) 0 h
def X4_explore (n : Nat) (σ : am_M) (τ : Nat → Int64) (a2 : Int32) (a3 : Int32) (a4 : Int64) : Option (am_M × (Nat → Int64) × Nat) := if (σ 0 12) = 0 then (X4_explore_J34 n σ τ a2 a3 a4) else (if a2 = (σ 0 13) then (if a3 = (σ 0 14) then (if (lg_cmp a4 (τ 0)) = 0 then (some (σ, τ, 28)) else (X4_explore_J34 n σ τ a2 a3 a4)) else (X4_explore_J34 n σ τ a2 a3 a4)) else (X4_explore_J34 n σ τ a2 a3 a4))
set_option maxRecDepth 100000 in
set_option maxHeartbeats 4000000 in
theorem c_X4_explore (l : Launch) (n : Nat) (σ : am_M) (τ : Nat → Int64) (a2 : Int32) (a3 : Int32) (a4 : Int64) (res : (am_M × (Nat → Int64) × Nat)) (h : X4_explore n σ τ a2 a3 a4 = some res) : am_Con l yX4_explore cX4_explore 7 none 7 [.ref 0, .ref 12, .int a2, .int a3, .long a4] (wX4 28 σ τ) (fun (r : Option Value) (w : am_W) => r = none ∧ w = (wX4 res.2.2 res.1 res.2.1)) := by
  refine am_metn (n0 := 28) (own := RX4) (cd := am_cdT' tX4_explore) (rf := am_rfL rfX4) (ini := false) rfl (by decide +kernel) rfl (by decide) dX4_explore rfX4_ok (Nat.le_of_ble_eq_true rfl) ?_
  intro V hV
  have hP : (fun (r : Option Value) (w : am_W) => r = none ∧ w = (wX4 res.2.2 res.1 res.2.1)) none (wX4 res.2.2 res.1 res.2.1) := ⟨rfl, rfl⟩
  show V (wX4 28 σ τ) 0 [(0, .ref 0), (1, .ref 12), (2, .int a2), (3, .int a3), (4, .long a4)] []
  unfold X4_explore at h
  by_cases c1 : (σ 0 12) = 0
  · rw [if_pos c1] at h
    refine hV.run 3 [1] (ws' := wX4 28 σ τ) (pc' := 34) (ls' := [(0, .ref 0), (1, .ref 12), (2, .int a2), (3, .int a3), (4, .long a4)]) (st' := []) (ps := [(σ 0 12) = 0]) rfl ⟨c1, trivial⟩ ?_
    exact p_X4_explore_J34 hV n res hP σ τ a2 a3 a4 h
  · rw [if_neg c1] at h
    by_cases c2 : a2 = (σ 0 13)
    · rw [if_pos c2] at h
      by_cases c3 : a3 = (σ 0 14)
      · rw [if_pos c3] at h
        by_cases c4 : (lg_cmp a4 (τ 0)) = 0
        · rw [if_pos c4] at h
          refine hV.run 16 [0, 0, 0, 0] (ws' := wX4 28 σ τ) (pc' := 33) (ls' := [(0, .ref 0), (1, .ref 12), (2, .int a2), (3, .int a3), (4, .long a4)]) (st' := []) (ps := [¬ (σ 0 12) = 0, a2 = (σ 0 13), a3 = (σ 0 14), (lg_cmp a4 (τ 0)) = 0]) rfl ⟨c1, c2, c3, c4, trivial⟩ ?_
          cases h
          exact hV.rv rfl rfl rfl hP
        · rw [if_neg c4] at h
          refine hV.run 16 [0, 0, 0, 1] (ws' := wX4 28 σ τ) (pc' := 34) (ls' := [(0, .ref 0), (1, .ref 12), (2, .int a2), (3, .int a3), (4, .long a4)]) (st' := []) (ps := [¬ (σ 0 12) = 0, a2 = (σ 0 13), a3 = (σ 0 14), ¬ (lg_cmp a4 (τ 0)) = 0]) rfl ⟨c1, c2, c3, c4, trivial⟩ ?_
          exact p_X4_explore_J34 hV n res hP σ τ a2 a3 a4 h
      · rw [if_neg c3] at h
        refine hV.run 11 [0, 0, 1] (ws' := wX4 28 σ τ) (pc' := 34) (ls' := [(0, .ref 0), (1, .ref 12), (2, .int a2), (3, .int a3), (4, .long a4)]) (st' := []) (ps := [¬ (σ 0 12) = 0, a2 = (σ 0 13), ¬ a3 = (σ 0 14)]) rfl ⟨c1, c2, c3, trivial⟩ ?_
        exact p_X4_explore_J34 hV n res hP σ τ a2 a3 a4 h
    · rw [if_neg c2] at h
      refine hV.run 7 [0, 1] (ws' := wX4 28 σ τ) (pc' := 34) (ls' := [(0, .ref 0), (1, .ref 12), (2, .int a2), (3, .int a3), (4, .long a4)]) (st' := []) (ps := [¬ (σ 0 12) = 0, ¬ a2 = (σ 0 13)]) rfl ⟨c1, c2, trivial⟩ ?_
      exact p_X4_explore_J34 hV n res hP σ τ a2 a3 a4 h

