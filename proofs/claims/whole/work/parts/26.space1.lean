def X4_hasWordsOfScene_B23 (n : Nat) (σ : am_M) (kont23 : Int32 → Int32 → Option Bool) (l1 : Int32) (l4 : Int32) : Option Bool := if (σ 3 4) ≤ l4 then (some true) else (if (jat 59700 (σ 21) ((l1 + l4) * 3)) = (jat 320 (σ 4) l4) then (if (jat 59700 (σ 21) (((l1 + l4) * 3) + 1)) = (jat 320 (σ 5) l4) then (if (jat 59700 (σ 21) (((l1 + l4) * 3) + 2)) = (jat 320 (σ 6) l4) then (kont23 l1 (l4 + 1)) else (some false)) else (some false)) else (some false))
def X4_hasWordsOfScene_L23 (n : Nat) (σ : am_M) : Nat → Int32 → Int32 → Option Bool
 | 0 => fun _ _ => none
 | k + 1 => fun l1 l4 => X4_hasWordsOfScene_B23 n σ (X4_hasWordsOfScene_L23 n σ k) l1 l4
set_option maxRecDepth 100000 in
set_option maxHeartbeats 4000000 in
theorem p_X4_hasWordsOfScene_B23 {l : Launch} {Post : Option Value → am_W → Prop} {V : am_VT} (hV : am_B l RX4 false 2 (am_cdT' tX4_hasWordsOfScene) (am_rfL rfX4) (some .boolean) Post 28 V) (n : Nat) (σ : am_M) (τ : Nat → Int64) (res : Bool) (hP : Post (some (.int (b2i res))) (wX4 12 σ τ)) (kont23 : Int32 → Int32 → Option Bool) (hk23 : ∀ (l1 : Int32) (l4 : Int32), kont23 l1 l4 = some res → V (wX4 12 σ τ) 23 [(0, .ref 0), (1, .int l1), (3, .ref 3), (4, .int l4)] []) (l1 : Int32) (l4 : Int32) (h : X4_hasWordsOfScene_B23 n σ kont23 l1 l4 = some res) : V (wX4 12 σ τ) 23 [(0, .ref 0), (1, .int l1), (3, .ref 3), (4, .int l4)] [] := by
  unfold X4_hasWordsOfScene_B23 at h
  by_cases c1 : (σ 3 4) ≤ l4
  · rw [if_pos c1] at h
    refine hV.run 5 [1] (ws' := wX4 12 σ τ) (pc' := 116) (ls' := [(0, .ref 0), (1, .int l1), (3, .ref 3), (4, .int l4)]) (st' := [.int 1]) (ps := [(σ 3 4) ≤ l4]) rfl ⟨c1, trivial⟩ ?_
    cases h
    exact hV.rz rfl rfl rfl (Or.inr rfl) hP
  · rw [if_neg c1] at h
    refine hV.run 13 [0] (ws' := wX4 12 σ τ) (pc' := 46) (ls' := [(5, .int ((l1 + l4) * 3)), (0, .ref 0), (1, .int l1), (3, .ref 3), (4, .int l4)]) (st' := [.int ((l1 + l4) * 3), .ref 21]) (ps := [¬ (σ 3 4) ≤ l4]) rfl ⟨c1, trivial⟩ ?_
    refine hV.cSi (as := [.ref 0, .int ((l1 + l4) * 3)]) (js := [21]) (rest := []) (st := [.int ((l1 + l4) * 3), .ref 21]) (ws2 := wX4 12 σ τ) (pc2 := 49) kX4_123 (c_at l 1 59700 (by decide) (σ 21) ((l1 + l4) * 3)) rfl rfl rfl rfl rfl rfl rfl rfl rfl rfl ?_
    refine hV.run 3 [] (ws' := wX4 12 σ τ) (pc' := 55) (ls' := [(5, .int ((l1 + l4) * 3)), (0, .ref 0), (1, .int l1), (3, .ref 3), (4, .int l4)]) (st' := [.int l4, .ref 4, .int (jat 59700 (σ 21) ((l1 + l4) * 3))]) (ps := []) rfl trivial ?_
    refine hV.cSi (as := [.ref 0, .int l4]) (js := [4]) (rest := [.int (jat 59700 (σ 21) ((l1 + l4) * 3))]) (st := [.int l4, .ref 4, .int (jat 59700 (σ 21) ((l1 + l4) * 3))]) (ws2 := wX4 12 σ τ) (pc2 := 58) kX4_123 (c_at l 1 320 (by decide) (σ 4) l4) rfl rfl rfl rfl rfl rfl rfl rfl rfl rfl ?_
    by_cases c2 : (jat 59700 (σ 21) ((l1 + l4) * 3)) = (jat 320 (σ 4) l4)
    · rw [if_pos c2] at h
      refine hV.run 6 [0] (ws' := wX4 12 σ τ) (pc' := 69) (ls' := [(5, .int ((l1 + l4) * 3)), (0, .ref 0), (1, .int l1), (3, .ref 3), (4, .int l4)]) (st' := [.int (((l1 + l4) * 3) + 1), .ref 21]) (ps := [(jat 59700 (σ 21) ((l1 + l4) * 3)) = (jat 320 (σ 4) l4)]) rfl ⟨c2, trivial⟩ ?_
      refine hV.cSi (as := [.ref 0, .int (((l1 + l4) * 3) + 1)]) (js := [21]) (rest := []) (st := [.int (((l1 + l4) * 3) + 1), .ref 21]) (ws2 := wX4 12 σ τ) (pc2 := 72) kX4_123 (c_at l 1 59700 (by decide) (σ 21) (((l1 + l4) * 3) + 1)) rfl rfl rfl rfl rfl rfl rfl rfl rfl rfl ?_
      refine hV.run 3 [] (ws' := wX4 12 σ τ) (pc' := 78) (ls' := [(5, .int ((l1 + l4) * 3)), (0, .ref 0), (1, .int l1), (3, .ref 3), (4, .int l4)]) (st' := [.int l4, .ref 5, .int (jat 59700 (σ 21) (((l1 + l4) * 3) + 1))]) (ps := []) rfl trivial ?_
      refine hV.cSi (as := [.ref 0, .int l4]) (js := [5]) (rest := [.int (jat 59700 (σ 21) (((l1 + l4) * 3) + 1))]) (st := [.int l4, .ref 5, .int (jat 59700 (σ 21) (((l1 + l4) * 3) + 1))]) (ws2 := wX4 12 σ τ) (pc2 := 81) kX4_123 (c_at l 1 320 (by decide) (σ 5) l4) rfl rfl rfl rfl rfl rfl rfl rfl rfl rfl ?_
      by_cases c3 : (jat 59700 (σ 21) (((l1 + l4) * 3) + 1)) = (jat 320 (σ 5) l4)
      · rw [if_pos c3] at h
        refine hV.run 6 [0] (ws' := wX4 12 σ τ) (pc' := 92) (ls' := [(5, .int ((l1 + l4) * 3)), (0, .ref 0), (1, .int l1), (3, .ref 3), (4, .int l4)]) (st' := [.int (((l1 + l4) * 3) + 2), .ref 21]) (ps := [(jat 59700 (σ 21) (((l1 + l4) * 3) + 1)) = (jat 320 (σ 5) l4)]) rfl ⟨c3, trivial⟩ ?_
        refine hV.cSi (as := [.ref 0, .int (((l1 + l4) * 3) + 2)]) (js := [21]) (rest := []) (st := [.int (((l1 + l4) * 3) + 2), .ref 21]) (ws2 := wX4 12 σ τ) (pc2 := 95) kX4_123 (c_at l 1 59700 (by decide) (σ 21) (((l1 + l4) * 3) + 2)) rfl rfl rfl rfl rfl rfl rfl rfl rfl rfl ?_
        refine hV.run 3 [] (ws' := wX4 12 σ τ) (pc' := 101) (ls' := [(5, .int ((l1 + l4) * 3)), (0, .ref 0), (1, .int l1), (3, .ref 3), (4, .int l4)]) (st' := [.int l4, .ref 6, .int (jat 59700 (σ 21) (((l1 + l4) * 3) + 2))]) (ps := []) rfl trivial ?_
        refine hV.cSi (as := [.ref 0, .int l4]) (js := [6]) (rest := [.int (jat 59700 (σ 21) (((l1 + l4) * 3) + 2))]) (st := [.int l4, .ref 6, .int (jat 59700 (σ 21) (((l1 + l4) * 3) + 2))]) (ws2 := wX4 12 σ τ) (pc2 := 104) kX4_123 (c_at l 1 320 (by decide) (σ 6) l4) rfl rfl rfl rfl rfl rfl rfl rfl rfl rfl ?_
        by_cases c4 : (jat 59700 (σ 21) (((l1 + l4) * 3) + 2)) = (jat 320 (σ 6) l4)
        · rw [if_pos c4] at h
          refine hV.run 3 [1] (ws' := wX4 12 σ τ) (pc' := 23) (ls' := [(4, .int (l4 + 1)), (5, .int ((l1 + l4) * 3)), (0, .ref 0), (1, .int l1), (3, .ref 3)]) (st' := []) (ps := [(jat 59700 (σ 21) (((l1 + l4) * 3) + 2)) = (jat 320 (σ 6) l4)]) rfl ⟨c4, trivial⟩ ?_
          refine hV.pick [2, 3, 4, 0] (ls' := [(0, .ref 0), (1, .int l1), (3, .ref 3), (4, .int (l4 + 1))]) rfl ?_
          exact hk23 l1 (l4 + 1) h
        · rw [if_neg c4] at h
          refine hV.run 2 [0] (ws' := wX4 12 σ τ) (pc' := 108) (ls' := [(5, .int ((l1 + l4) * 3)), (0, .ref 0), (1, .int l1), (3, .ref 3), (4, .int l4)]) (st' := [.int 0]) (ps := [¬ (jat 59700 (σ 21) (((l1 + l4) * 3) + 2)) = (jat 320 (σ 6) l4)]) rfl ⟨c4, trivial⟩ ?_
          cases h
          exact hV.rz rfl rfl rfl (Or.inl rfl) hP
      · rw [if_neg c3] at h
        refine hV.run 2 [1] (ws' := wX4 12 σ τ) (pc' := 108) (ls' := [(5, .int ((l1 + l4) * 3)), (0, .ref 0), (1, .int l1), (3, .ref 3), (4, .int l4)]) (st' := [.int 0]) (ps := [¬ (jat 59700 (σ 21) (((l1 + l4) * 3) + 1)) = (jat 320 (σ 5) l4)]) rfl ⟨c3, trivial⟩ ?_
        cases h
        exact hV.rz rfl rfl rfl (Or.inl rfl) hP
    · rw [if_neg c2] at h
      refine hV.run 2 [1] (ws' := wX4 12 σ τ) (pc' := 108) (ls' := [(5, .int ((l1 + l4) * 3)), (0, .ref 0), (1, .int l1), (3, .ref 3), (4, .int l4)]) (st' := [.int 0]) (ps := [¬ (jat 59700 (σ 21) ((l1 + l4) * 3)) = (jat 320 (σ 4) l4)]) rfl ⟨c2, trivial⟩ ?_
      cases h
      exact hV.rz rfl rfl rfl (Or.inl rfl) hP
theorem p_X4_hasWordsOfScene_L23 {l : Launch} {Post : Option Value → am_W → Prop} {V : am_VT} (hV : am_B l RX4 false 2 (am_cdT' tX4_hasWordsOfScene) (am_rfL rfX4) (some .boolean) Post 28 V) (n : Nat) (σ : am_M) (τ : Nat → Int64) (res : Bool) (hP : Post (some (.int (b2i res))) (wX4 12 σ τ)) : ∀ (k : Nat) (l1 : Int32) (l4 : Int32) (h : X4_hasWordsOfScene_L23 n σ k l1 l4 = some res), V (wX4 12 σ τ) 23 [(0, .ref 0), (1, .int l1), (3, .ref 3), (4, .int l4)] [] := by
  intro k
  induction k with
  | zero => intro l1 l4 h; cases h
  | succ k ih => intro l1 l4 h; exact p_X4_hasWordsOfScene_B23 hV n σ τ res hP _ ih l1 l4 h
def X4_hasWordsOfScene (n : Nat) (σ : am_M) (a1 : Int32) (a2 : Int32) : Option Bool := if (a2 - a1) = (σ 3 4) then (X4_hasWordsOfScene_L23 n σ n a1 0) else (some false)
set_option maxRecDepth 100000 in
set_option maxHeartbeats 4000000 in
theorem c_X4_hasWordsOfScene (l : Launch) (n : Nat) (σ : am_M) (τ : Nat → Int64) (a1 : Int32) (a2 : Int32) (res : Bool) (h : X4_hasWordsOfScene n σ a1 a2 = some res) : am_Con l yX4_hasWordsOfScene cX4_hasWordsOfScene 6 (some .boolean) 2 [.ref 0, .int a1, .int a2] (wX4 12 σ τ) (fun (r : Option Value) (w : am_W) => r = (some (.int (b2i res))) ∧ w = (wX4 12 σ τ)) := by
  refine am_metn (n0 := 28) (own := RX4) (cd := am_cdT' tX4_hasWordsOfScene) (rf := am_rfL rfX4) (ini := false) rfl (by decide +kernel) rfl (by decide) dX4_hasWordsOfScene rfX4_ok (Nat.le_of_ble_eq_true rfl) ?_
  intro V hV
  have hP : (fun (r : Option Value) (w : am_W) => r = (some (.int (b2i res))) ∧ w = (wX4 12 σ τ)) (some (.int (b2i res))) (wX4 12 σ τ) := ⟨rfl, rfl⟩
  show V (wX4 12 σ τ) 0 [(0, .ref 0), (1, .int a1), (2, .int a2)] []
  unfold X4_hasWordsOfScene at h
  by_cases c1 : (a2 - a1) = (σ 3 4)
  · rw [if_pos c1] at h
    refine hV.run 12 [1] (ws' := wX4 12 σ τ) (pc' := 23) (ls' := [(4, .int 0), (3, .ref 3), (0, .ref 0), (1, .int a1), (2, .int a2)]) (st' := []) (ps := [(a2 - a1) = (σ 3 4)]) rfl ⟨c1, trivial⟩ ?_
    refine hV.pick [2, 3, 1, 0] (ls' := [(0, .ref 0), (1, .int a1), (3, .ref 3), (4, .int 0)]) rfl ?_
    exact p_X4_hasWordsOfScene_L23 hV n σ τ res hP n a1 0 h
  · rw [if_neg c1] at h
    refine hV.run 11 [0] (ws' := wX4 12 σ τ) (pc' := 19) (ls' := [(3, .ref 3), (0, .ref 0), (1, .int a1), (2, .int a2)]) (st' := [.int 0]) (ps := [¬ (a2 - a1) = (σ 3 4)]) rfl ⟨c1, trivial⟩ ?_
    cases h
    exact hV.rz rfl rfl rfl (Or.inl rfl) hP

def X4_isScene_B2 (n : Nat) (σ : am_M) (kont2 : Int32 → Int32 → Option Bool) (l1 : Int32) (l2 : Int32) : Option Bool := if ((σ 0 13) * 13) ≤ l2 then (X4_hasWordsOfScene n σ (jat 201 (σ 22) l1) (jat 201 (σ 22) (l1 + 1))).bind (fun q2 => some q2) else (if (jat 20800 (σ 20) ((l1 * 104) + l2)) = (jat 104 (σ 2) l2) then (kont2 l1 (l2 + 1)) else (some false))
def X4_isScene_L2 (n : Nat) (σ : am_M) : Nat → Int32 → Int32 → Option Bool
 | 0 => fun _ _ => none
 | k + 1 => fun l1 l2 => X4_isScene_B2 n σ (X4_isScene_L2 n σ k) l1 l2
set_option maxRecDepth 100000 in
set_option maxHeartbeats 4000000 in
theorem p_X4_isScene_B2 {l : Launch} {Post : Option Value → am_W → Prop} {V : am_VT} (hV : am_B l RX4 false 3 (am_cdT' tX4_isScene) (am_rfL rfX4) (some .boolean) Post 28 V) (n : Nat) (σ : am_M) (τ : Nat → Int64) (res : Bool) (hP : Post (some (.int (b2i res))) (wX4 12 σ τ)) (kont2 : Int32 → Int32 → Option Bool) (hk2 : ∀ (l1 : Int32) (l2 : Int32), kont2 l1 l2 = some res → V (wX4 12 σ τ) 2 [(0, .ref 0), (1, .int l1), (2, .int l2)] []) (l1 : Int32) (l2 : Int32) (h : X4_isScene_B2 n σ kont2 l1 l2 = some res) : V (wX4 12 σ τ) 2 [(0, .ref 0), (1, .int l1), (2, .int l2)] [] := by
  unfold X4_isScene_B2 at h
  by_cases c1 : ((σ 0 13) * 13) ≤ l2
  · rw [if_pos c1] at h
    refine hV.run 10 [1] (ws' := wX4 12 σ τ) (pc' := 54) (ls' := [(0, .ref 0), (1, .int l1), (2, .int l2)]) (st' := [.int l1, .ref 22, .ref 0]) (ps := [((σ 0 13) * 13) ≤ l2]) rfl ⟨c1, trivial⟩ ?_
    refine hV.cSi (as := [.ref 0, .int l1]) (js := [22]) (rest := [.ref 0]) (st := [.int l1, .ref 22, .ref 0]) (ws2 := wX4 12 σ τ) (pc2 := 57) kX4_123 (c_at l 1 201 (by decide) (σ 22) l1) rfl rfl rfl rfl rfl rfl rfl rfl rfl rfl ?_
    refine hV.run 5 [] (ws' := wX4 12 σ τ) (pc' := 64) (ls' := [(0, .ref 0), (1, .int l1), (2, .int l2)]) (st' := [.int (l1 + 1), .ref 22, .int (jat 201 (σ 22) l1), .ref 0]) (ps := []) rfl trivial ?_
    refine hV.cSi (as := [.ref 0, .int (l1 + 1)]) (js := [22]) (rest := [.int (jat 201 (σ 22) l1), .ref 0]) (st := [.int (l1 + 1), .ref 22, .int (jat 201 (σ 22) l1), .ref 0]) (ws2 := wX4 12 σ τ) (pc2 := 67) kX4_123 (c_at l 1 201 (by decide) (σ 22) (l1 + 1)) rfl rfl rfl rfl rfl rfl rfl rfl rfl rfl ?_
    obtain ⟨q2, hq2, h⟩ := am_bind h
    refine hV.cOi (as := [.int (jat 201 (σ 22) l1), .int (jat 201 (σ 22) (l1 + 1))]) (rest := []) (st := [.int (jat 201 (σ 22) (l1 + 1)), .int (jat 201 (σ 22) l1), .ref 0]) (ws2 := wX4 12 σ τ) (pc2 := 70) kX4_171 (c_X4_hasWordsOfScene l n σ τ (jat 201 (σ 22) l1) (jat 201 (σ 22) (l1 + 1)) q2 hq2) rfl rfl rfl rfl rfl rfl rfl rfl rfl ?_
    cases h
    exact hV.rz rfl rfl rfl (b2i_01 _) hP
  · rw [if_neg c1] at h
    refine hV.run 13 [0] (ws' := wX4 12 σ τ) (pc' := 23) (ls' := [(0, .ref 0), (1, .int l1), (2, .int l2)]) (st' := [.int ((l1 * 104) + l2), .ref 20]) (ps := [¬ ((σ 0 13) * 13) ≤ l2]) rfl ⟨c1, trivial⟩ ?_
    refine hV.cSi (as := [.ref 0, .int ((l1 * 104) + l2)]) (js := [20]) (rest := []) (st := [.int ((l1 * 104) + l2), .ref 20]) (ws2 := wX4 12 σ τ) (pc2 := 26) kX4_123 (c_at l 1 20800 (by decide) (σ 20) ((l1 * 104) + l2)) rfl rfl rfl rfl rfl rfl rfl rfl rfl rfl ?_
    refine hV.run 4 [] (ws' := wX4 12 σ τ) (pc' := 34) (ls' := [(0, .ref 0), (1, .int l1), (2, .int l2)]) (st' := [.int l2, .ref 2, .int (jat 20800 (σ 20) ((l1 * 104) + l2))]) (ps := []) rfl trivial ?_
    refine hV.cSi (as := [.ref 0, .int l2]) (js := [2]) (rest := [.int (jat 20800 (σ 20) ((l1 * 104) + l2))]) (st := [.int l2, .ref 2, .int (jat 20800 (σ 20) ((l1 * 104) + l2))]) (ws2 := wX4 12 σ τ) (pc2 := 37) kX4_123 (c_at l 1 104 (by decide) (σ 2) l2) rfl rfl rfl rfl rfl rfl rfl rfl rfl rfl ?_
    by_cases c3 : (jat 20800 (σ 20) ((l1 * 104) + l2)) = (jat 104 (σ 2) l2)
    · rw [if_pos c3] at h
      refine hV.run 3 [1] (ws' := wX4 12 σ τ) (pc' := 2) (ls' := [(2, .int (l2 + 1)), (0, .ref 0), (1, .int l1)]) (st' := []) (ps := [(jat 20800 (σ 20) ((l1 * 104) + l2)) = (jat 104 (σ 2) l2)]) rfl ⟨c3, trivial⟩ ?_
      refine hV.pick [1, 2, 0] (ls' := [(0, .ref 0), (1, .int l1), (2, .int (l2 + 1))]) rfl ?_
      exact hk2 l1 (l2 + 1) h
    · rw [if_neg c3] at h
      refine hV.run 2 [0] (ws' := wX4 12 σ τ) (pc' := 41) (ls' := [(0, .ref 0), (1, .int l1), (2, .int l2)]) (st' := [.int 0]) (ps := [¬ (jat 20800 (σ 20) ((l1 * 104) + l2)) = (jat 104 (σ 2) l2)]) rfl ⟨c3, trivial⟩ ?_
      cases h
      exact hV.rz rfl rfl rfl (Or.inl rfl) hP
theorem p_X4_isScene_L2 {l : Launch} {Post : Option Value → am_W → Prop} {V : am_VT} (hV : am_B l RX4 false 3 (am_cdT' tX4_isScene) (am_rfL rfX4) (some .boolean) Post 28 V) (n : Nat) (σ : am_M) (τ : Nat → Int64) (res : Bool) (hP : Post (some (.int (b2i res))) (wX4 12 σ τ)) : ∀ (k : Nat) (l1 : Int32) (l2 : Int32) (h : X4_isScene_L2 n σ k l1 l2 = some res), V (wX4 12 σ τ) 2 [(0, .ref 0), (1, .int l1), (2, .int l2)] [] := by
  intro k
  induction k with
  | zero => intro l1 l2 h; cases h
  | succ k ih => intro l1 l2 h; exact p_X4_isScene_B2 hV n σ τ res hP _ ih l1 l2 h
def X4_isScene (n : Nat) (σ : am_M) (a1 : Int32) : Option Bool := X4_isScene_L2 n σ n a1 0
set_option maxRecDepth 100000 in
set_option maxHeartbeats 4000000 in
theorem c_X4_isScene (l : Launch) (n : Nat) (σ : am_M) (τ : Nat → Int64) (a1 : Int32) (res : Bool) (h : X4_isScene n σ a1 = some res) : am_Con l yX4_isScene cX4_isScene 3 (some .boolean) 3 [.ref 0, .int a1] (wX4 12 σ τ) (fun (r : Option Value) (w : am_W) => r = (some (.int (b2i res))) ∧ w = (wX4 12 σ τ)) := by
  refine am_metn (n0 := 28) (own := RX4) (cd := am_cdT' tX4_isScene) (rf := am_rfL rfX4) (ini := false) rfl (by decide +kernel) rfl (by decide) dX4_isScene rfX4_ok (Nat.le_of_ble_eq_true rfl) ?_
  intro V hV
  have hP : (fun (r : Option Value) (w : am_W) => r = (some (.int (b2i res))) ∧ w = (wX4 12 σ τ)) (some (.int (b2i res))) (wX4 12 σ τ) := ⟨rfl, rfl⟩
  show V (wX4 12 σ τ) 0 [(0, .ref 0), (1, .int a1)] []
  unfold X4_isScene at h
  refine hV.run 2 [] (ws' := wX4 12 σ τ) (pc' := 2) (ls' := [(2, .int 0), (0, .ref 0), (1, .int a1)]) (st' := []) (ps := []) rfl trivial ?_
  refine hV.pick [1, 2, 0] (ls' := [(0, .ref 0), (1, .int a1), (2, .int 0)]) rfl ?_
  exact p_X4_isScene_L2 hV n σ τ res hP n a1 0 h

def X4_slotOf_J56 (n : Nat) (σ : am_M) (kont8 : Int32 → Int32 → Int32 → Option Int32) (l1 : Int32) (l2 : Int32) (l3 : Int32) : Option Int32 := kont8 l1 ((l2 + 1) &&& 511) (l3 + 1)
set_option maxRecDepth 100000 in
set_option maxHeartbeats 4000000 in
theorem p_X4_slotOf_J56 {l : Launch} {Post : Option Value → am_W → Prop} {V : am_VT} (hV : am_B l RX4 false 4 (am_cdT' tX4_slotOf) (am_rfL rfX4) (some .int) Post 28 V) (n : Nat) (σ : am_M) (τ : Nat → Int64) (res : Int32) (hP : Post (some (.int res)) (wX4 12 σ τ)) (kont8 : Int32 → Int32 → Int32 → Option Int32) (hk8 : ∀ (l1 : Int32) (l2 : Int32) (l3 : Int32), kont8 l1 l2 l3 = some res → V (wX4 12 σ τ) 8 [(0, .ref 0), (1, .int l1), (2, .int l2), (3, .int l3)] []) (l1 : Int32) (l2 : Int32) (l3 : Int32) (h : X4_slotOf_J56 n σ kont8 l1 l2 l3 = some res) : V (wX4 12 σ τ) 56 [(0, .ref 0), (1, .int l1), (2, .int l2), (3, .int l3)] [] := by
  unfold X4_slotOf_J56 at h
  refine hV.run 8 [] (ws' := wX4 12 σ τ) (pc' := 8) (ls' := [(3, .int (l3 + 1)), (2, .int ((l2 + 1) &&& 511)), (0, .ref 0), (1, .int l1)]) (st' := []) (ps := []) rfl trivial ?_
  refine hV.pick [2, 3, 1, 0] (ls' := [(0, .ref 0), (1, .int l1), (2, .int ((l2 + 1) &&& 511)), (3, .int (l3 + 1))]) rfl ?_
  exact hk8 l1 ((l2 + 1) &&& 511) (l3 + 1) h
def X4_slotOf_B8 (n : Nat) (σ : am_M) (kont8 : Int32 → Int32 → Int32 → Option Int32) (l1 : Int32) (l2 : Int32) (l3 : Int32) : Option Int32 := if 512 ≤ l3 then (some l2) else (if ((jat 512 (σ 24) l2) - 1) < 0 then (some l2) else (if (jat 200 (σ 23) ((jat 512 (σ 24) l2) - 1)) = l1 then (X4_isScene n σ ((jat 512 (σ 24) l2) - 1)).bind (fun q4 => if q4 = true then (some l2) else (X4_slotOf_J56 n σ kont8 l1 l2 l3)) else (X4_slotOf_J56 n σ kont8 l1 l2 l3)))
def X4_slotOf_L8 (n : Nat) (σ : am_M) : Nat → Int32 → Int32 → Int32 → Option Int32
 | 0 => fun _ _ _ => none
 | k + 1 => fun l1 l2 l3 => X4_slotOf_B8 n σ (X4_slotOf_L8 n σ k) l1 l2 l3
set_option maxRecDepth 100000 in
set_option maxHeartbeats 4000000 in
theorem p_X4_slotOf_B8 {l : Launch} {Post : Option Value → am_W → Prop} {V : am_VT} (hV : am_B l RX4 false 4 (am_cdT' tX4_slotOf) (am_rfL rfX4) (some .int) Post 28 V) (n : Nat) (σ : am_M) (τ : Nat → Int64) (res : Int32) (hP : Post (some (.int res)) (wX4 12 σ τ)) (kont8 : Int32 → Int32 → Int32 → Option Int32) (hk8 : ∀ (l1 : Int32) (l2 : Int32) (l3 : Int32), kont8 l1 l2 l3 = some res → V (wX4 12 σ τ) 8 [(0, .ref 0), (1, .int l1), (2, .int l2), (3, .int l3)] []) (l1 : Int32) (l2 : Int32) (l3 : Int32) (h : X4_slotOf_B8 n σ kont8 l1 l2 l3 = some res) : V (wX4 12 σ τ) 8 [(0, .ref 0), (1, .int l1), (2, .int l2), (3, .int l3)] [] := by
  unfold X4_slotOf_B8 at h
  by_cases c1 : 512 ≤ l3
  · rw [if_pos c1] at h
    refine hV.run 4 [1] (ws' := wX4 12 σ τ) (pc' := 71) (ls' := [(0, .ref 0), (1, .int l1), (2, .int l2), (3, .int l3)]) (st' := [.int l2]) (ps := [512 ≤ l3]) rfl ⟨c1, trivial⟩ ?_
    cases h
    exact hV.ri rfl rfl rfl hP
  · rw [if_neg c1] at h
    refine hV.run 6 [0] (ws' := wX4 12 σ τ) (pc' := 20) (ls' := [(0, .ref 0), (1, .int l1), (2, .int l2), (3, .int l3)]) (st' := [.int l2, .ref 24]) (ps := [¬ 512 ≤ l3]) rfl ⟨c1, trivial⟩ ?_
    refine hV.cSi (as := [.ref 0, .int l2]) (js := [24]) (rest := []) (st := [.int l2, .ref 24]) (ws2 := wX4 12 σ τ) (pc2 := 23) kX4_123 (c_at l 1 512 (by decide) (σ 24) l2) rfl rfl rfl rfl rfl rfl rfl rfl rfl rfl ?_
    by_cases c2 : ((jat 512 (σ 24) l2) - 1) < 0
    · rw [if_pos c2] at h
      refine hV.run 6 [1] (ws' := wX4 12 σ τ) (pc' := 55) (ls' := [(4, .int ((jat 512 (σ 24) l2) - 1)), (0, .ref 0), (1, .int l1), (2, .int l2), (3, .int l3)]) (st' := [.int l2]) (ps := [((jat 512 (σ 24) l2) - 1) < 0]) rfl ⟨c2, trivial⟩ ?_
      cases h
      exact hV.ri rfl rfl rfl hP
    · rw [if_neg c2] at h
      refine hV.run 8 [0] (ws' := wX4 12 σ τ) (pc' := 38) (ls' := [(4, .int ((jat 512 (σ 24) l2) - 1)), (0, .ref 0), (1, .int l1), (2, .int l2), (3, .int l3)]) (st' := [.int ((jat 512 (σ 24) l2) - 1), .ref 23]) (ps := [¬ ((jat 512 (σ 24) l2) - 1) < 0]) rfl ⟨c2, trivial⟩ ?_
      refine hV.cSi (as := [.ref 0, .int ((jat 512 (σ 24) l2) - 1)]) (js := [23]) (rest := []) (st := [.int ((jat 512 (σ 24) l2) - 1), .ref 23]) (ws2 := wX4 12 σ τ) (pc2 := 41) kX4_123 (c_at l 1 200 (by decide) (σ 23) ((jat 512 (σ 24) l2) - 1)) rfl rfl rfl rfl rfl rfl rfl rfl rfl rfl ?_
      by_cases c3 : (jat 200 (σ 23) ((jat 512 (σ 24) l2) - 1)) = l1
      · rw [if_pos c3] at h
        refine hV.run 4 [0] (ws' := wX4 12 σ τ) (pc' := 48) (ls' := [(4, .int ((jat 512 (σ 24) l2) - 1)), (0, .ref 0), (1, .int l1), (2, .int l2), (3, .int l3)]) (st' := [.int ((jat 512 (σ 24) l2) - 1), .ref 0]) (ps := [(jat 200 (σ 23) ((jat 512 (σ 24) l2) - 1)) = l1]) rfl ⟨c3, trivial⟩ ?_
        obtain ⟨q4, hq4, h⟩ := am_bind h
        refine hV.cOi (as := [.int ((jat 512 (σ 24) l2) - 1)]) (rest := []) (st := [.int ((jat 512 (σ 24) l2) - 1), .ref 0]) (ws2 := wX4 12 σ τ) (pc2 := 51) kX4_167 (c_X4_isScene l n σ τ ((jat 512 (σ 24) l2) - 1) q4 hq4) rfl rfl rfl rfl rfl rfl rfl rfl rfl ?_
        by_cases c5 : q4 = true
        · rw [if_pos c5] at h
          refine hV.run 2 [0] (ws' := wX4 12 σ τ) (pc' := 55) (ls' := [(4, .int ((jat 512 (σ 24) l2) - 1)), (0, .ref 0), (1, .int l1), (2, .int l2), (3, .int l3)]) (st' := [.int l2]) (ps := [¬ (b2i q4) = 0]) rfl ⟨(b2i_t c5), trivial⟩ ?_
          cases h
          exact hV.ri rfl rfl rfl hP
        · rw [if_neg c5] at h
          refine hV.run 1 [1] (ws' := wX4 12 σ τ) (pc' := 56) (ls' := [(4, .int ((jat 512 (σ 24) l2) - 1)), (0, .ref 0), (1, .int l1), (2, .int l2), (3, .int l3)]) (st' := []) (ps := [(b2i q4) = 0]) rfl ⟨(b2i_f c5), trivial⟩ ?_
          refine hV.pick [1, 2, 3, 4] (ls' := [(0, .ref 0), (1, .int l1), (2, .int l2), (3, .int l3)]) rfl ?_
          exact p_X4_slotOf_J56 hV n σ τ res hP kont8 hk8 l1 l2 l3 h
      · rw [if_neg c3] at h
        refine hV.run 2 [1] (ws' := wX4 12 σ τ) (pc' := 56) (ls' := [(4, .int ((jat 512 (σ 24) l2) - 1)), (0, .ref 0), (1, .int l1), (2, .int l2), (3, .int l3)]) (st' := []) (ps := [¬ (jat 200 (σ 23) ((jat 512 (σ 24) l2) - 1)) = l1]) rfl ⟨c3, trivial⟩ ?_
        refine hV.pick [1, 2, 3, 4] (ls' := [(0, .ref 0), (1, .int l1), (2, .int l2), (3, .int l3)]) rfl ?_
        exact p_X4_slotOf_J56 hV n σ τ res hP kont8 hk8 l1 l2 l3 h
theorem p_X4_slotOf_L8 {l : Launch} {Post : Option Value → am_W → Prop} {V : am_VT} (hV : am_B l RX4 false 4 (am_cdT' tX4_slotOf) (am_rfL rfX4) (some .int) Post 28 V) (n : Nat) (σ : am_M) (τ : Nat → Int64) (res : Int32) (hP : Post (some (.int res)) (wX4 12 σ τ)) : ∀ (k : Nat) (l1 : Int32) (l2 : Int32) (l3 : Int32) (h : X4_slotOf_L8 n σ k l1 l2 l3 = some res), V (wX4 12 σ τ) 8 [(0, .ref 0), (1, .int l1), (2, .int l2), (3, .int l3)] [] := by
  intro k
  induction k with
  | zero => intro l1 l2 l3 h; cases h
  | succ k ih => intro l1 l2 l3 h; exact p_X4_slotOf_B8 hV n σ τ res hP _ ih l1 l2 l3 h
def X4_slotOf (n : Nat) (σ : am_M) (a1 : Int32) : Option Int32 := X4_slotOf_L8 n σ n a1 (a1 &&& 511) 0
set_option maxRecDepth 100000 in
set_option maxHeartbeats 4000000 in
theorem c_X4_slotOf (l : Launch) (n : Nat) (σ : am_M) (τ : Nat → Int64) (a1 : Int32) (res : Int32) (h : X4_slotOf n σ a1 = some res) : am_Con l yX4_slotOf cX4_slotOf 5 (some .int) 4 [.ref 0, .int a1] (wX4 12 σ τ) (fun (r : Option Value) (w : am_W) => r = (some (.int res)) ∧ w = (wX4 12 σ τ)) := by
  refine am_metn (n0 := 28) (own := RX4) (cd := am_cdT' tX4_slotOf) (rf := am_rfL rfX4) (ini := false) rfl (by decide +kernel) rfl (by decide) dX4_slotOf rfX4_ok (Nat.le_of_ble_eq_true rfl) ?_
  intro V hV
  have hP : (fun (r : Option Value) (w : am_W) => r = (some (.int res)) ∧ w = (wX4 12 σ τ)) (some (.int res)) (wX4 12 σ τ) := ⟨rfl, rfl⟩
  show V (wX4 12 σ τ) 0 [(0, .ref 0), (1, .int a1)] []
  unfold X4_slotOf at h
  refine hV.run 6 [] (ws' := wX4 12 σ τ) (pc' := 8) (ls' := [(3, .int 0), (2, .int (a1 &&& 511)), (0, .ref 0), (1, .int a1)]) (st' := []) (ps := []) rfl trivial ?_
  refine hV.pick [2, 3, 1, 0] (ls' := [(0, .ref 0), (1, .int a1), (2, .int (a1 &&& 511)), (3, .int 0)]) rfl ?_
  exact p_X4_slotOf_L8 hV n σ τ res hP n a1 (a1 &&& 511) 0 h

def X4_keep_J61 (n : Nat) (σ : am_M) : Option am_M := some (sC σ 0 (am_u (σ 0) 11 1))
set_option maxRecDepth 100000 in
set_option maxHeartbeats 4000000 in
theorem p_X4_keep_J61 {l : Launch} {Post : Option Value → am_W → Prop} {V : am_VT} (hV : am_B l RX4 false 5 (am_cdT' tX4_keep) (am_rfL rfX4) none Post 28 V) (n : Nat) (τ : Nat → Int64) (res : am_M) (hP : Post none (wX4 12 res τ)) (σ : am_M) (h : X4_keep_J61 n σ = some res) : V (wX4 12 σ τ) 61 [(0, .ref 0)] [] := by
  unfold X4_keep_J61 at h
  refine hV.run 3 [] (ws' := wX4 12 (sC σ 0 (am_u (σ 0) 11 1)) τ) (pc' := 66) (ls' := [(0, .ref 0)]) (st' := []) (ps := [(1 : Int32) = 0 ∨ (1 : Int32) = 1]) rfl ⟨(Or.inr rfl), trivial⟩ ?_
  cases h
  exact hV.rv rfl rfl rfl hP
def X4_keep (n : Nat) (σ : am_M) : Option am_M := (X4_hashOfScene n σ).bind (fun q1 => (X4_slotOf n σ q1).bind (fun q2 => if (jat 512 (σ 24) q2) = 0 then (if 200 ≤ (σ 0 9) then (X4_keep_J61 n σ) else (if ((jat 201 (σ 22) (σ 0 9)) + (σ 3 4)) ≤ 19900 then (X4_store n (sC (sC σ 23 (jput 200 (σ 23) (σ 0 9) q1)) 24 (jput 512 (σ 24) q2 ((σ 0 9) + 1))) (σ 0 9)).bind (fun q6 => some (sC q6 0 (am_u (q6 0) 9 ((q6 0 9) + 1)))) else (X4_keep_J61 n σ))) else (some σ)))
set_option maxRecDepth 100000 in
set_option maxHeartbeats 4000000 in
theorem c_X4_keep (l : Launch) (n : Nat) (σ : am_M) (τ : Nat → Int64) (res : am_M) (h : X4_keep n σ = some res) : am_Con l yX4_keep cX4_keep 3 none 5 [.ref 0] (wX4 12 σ τ) (fun (r : Option Value) (w : am_W) => r = none ∧ w = (wX4 12 res τ)) := by
  refine am_metn (n0 := 28) (own := RX4) (cd := am_cdT' tX4_keep) (rf := am_rfL rfX4) (ini := false) rfl (by decide +kernel) rfl (by decide) dX4_keep rfX4_ok (Nat.le_of_ble_eq_true rfl) ?_
  intro V hV
  have hP : (fun (r : Option Value) (w : am_W) => r = none ∧ w = (wX4 12 res τ)) none (wX4 12 res τ) := ⟨rfl, rfl⟩
  show V (wX4 12 σ τ) 0 [(0, .ref 0)] []
  unfold X4_keep at h
  refine hV.run 1 [] (ws' := wX4 12 σ τ) (pc' := 1) (ls' := [(0, .ref 0)]) (st' := [.ref 0]) (ps := []) rfl trivial ?_
  obtain ⟨q1, hq1, h⟩ := am_bind h
  refine hV.cOi (as := []) (rest := []) (st := [.ref 0]) (ws2 := wX4 12 σ τ) (pc2 := 4) kX4_158 (c_X4_hashOfScene l n σ τ q1 hq1) rfl rfl rfl rfl rfl rfl rfl rfl rfl ?_
  refine hV.run 3 [] (ws' := wX4 12 σ τ) (pc' := 7) (ls' := [(1, .int q1), (0, .ref 0)]) (st' := [.int q1, .ref 0]) (ps := []) rfl trivial ?_
  obtain ⟨q2, hq2, h⟩ := am_bind h
  refine hV.cOi (as := [.int q1]) (rest := []) (st := [.int q1, .ref 0]) (ws2 := wX4 12 σ τ) (pc2 := 10) kX4_161 (c_X4_slotOf l n σ τ q1 q2 hq2) rfl rfl rfl rfl rfl rfl rfl rfl rfl ?_
  refine hV.run 4 [] (ws' := wX4 12 σ τ) (pc' := 16) (ls' := [(2, .int q2), (1, .int q1), (0, .ref 0)]) (st' := [.int q2, .ref 24]) (ps := []) rfl trivial ?_
  refine hV.cSi (as := [.ref 0, .int q2]) (js := [24]) (rest := []) (st := [.int q2, .ref 24]) (ws2 := wX4 12 σ τ) (pc2 := 19) kX4_123 (c_at l 1 512 (by decide) (σ 24) q2) rfl rfl rfl rfl rfl rfl rfl rfl rfl rfl ?_
  by_cases c3 : (jat 512 (σ 24) q2) = 0
  · rw [if_pos c3] at h
    by_cases c4 : 200 ≤ (σ 0 9)
    · rw [if_pos c4] at h
      refine hV.run 5 [1, 1] (ws' := wX4 12 σ τ) (pc' := 61) (ls' := [(2, .int q2), (1, .int q1), (0, .ref 0)]) (st' := []) (ps := [(jat 512 (σ 24) q2) = 0, 200 ≤ (σ 0 9)]) rfl ⟨c3, c4, trivial⟩ ?_
      refine hV.pick [2] (ls' := [(0, .ref 0)]) rfl ?_
      exact p_X4_keep_J61 hV n τ res hP σ h
    · rw [if_neg c4] at h
      refine hV.run 9 [1, 0] (ws' := wX4 12 σ τ) (pc' := 41) (ls' := [(2, .int q2), (1, .int q1), (0, .ref 0)]) (st' := [.int (σ 0 9), .ref 22]) (ps := [(jat 512 (σ 24) q2) = 0, ¬ 200 ≤ (σ 0 9)]) rfl ⟨c3, c4, trivial⟩ ?_
      refine hV.cSi (as := [.ref 0, .int (σ 0 9)]) (js := [22]) (rest := []) (st := [.int (σ 0 9), .ref 22]) (ws2 := wX4 12 σ τ) (pc2 := 44) kX4_123 (c_at l 1 201 (by decide) (σ 22) (σ 0 9)) rfl rfl rfl rfl rfl rfl rfl rfl rfl rfl ?_
      by_cases c5 : ((jat 201 (σ 22) (σ 0 9)) + (σ 3 4)) ≤ 19900
      · rw [if_pos c5] at h
        refine hV.run 14 [1] (ws' := wX4 12 σ τ) (pc' := 78) (ls' := [(2, .int q2), (1, .int q1), (0, .ref 0)]) (st' := [.int ((σ 0 9) + 1), .int q2, .ref 24]) (ps := [((jat 201 (σ 22) (σ 0 9)) + (σ 3 4)) ≤ 19900]) rfl ⟨c5, trivial⟩ ?_
        refine hV.cSv (as := [.ref 0, .int q2, .int ((σ 0 9) + 1)]) (js := [24]) (rest := []) (st := [.int ((σ 0 9) + 1), .int q2, .ref 24]) (ws2 := wX4 12 (sC σ 24 (jput 512 (σ 24) q2 ((σ 0 9) + 1))) τ) (pc2 := 81) kX4_68 (c_put l 1 512 (by decide) (σ 24) q2 ((σ 0 9) + 1)) rfl rfl rfl rfl rfl rfl rfl rfl rfl rfl ?_
        refine hV.run 5 [] (ws' := wX4 12 (sC σ 24 (jput 512 (σ 24) q2 ((σ 0 9) + 1))) τ) (pc' := 90) (ls' := [(2, .int q2), (1, .int q1), (0, .ref 0)]) (st' := [.int q1, .int (σ 0 9), .ref 23]) (ps := []) rfl trivial ?_
        refine hV.cSv (as := [.ref 0, .int (σ 0 9), .int q1]) (js := [23]) (rest := []) (st := [.int q1, .int (σ 0 9), .ref 23]) (ws2 := wX4 12 (sC (sC σ 23 (jput 200 (σ 23) (σ 0 9) q1)) 24 (jput 512 (σ 24) q2 ((σ 0 9) + 1))) τ) (pc2 := 93) kX4_68 (c_put l 1 200 (by decide) (σ 23) (σ 0 9) q1) rfl rfl rfl rfl rfl rfl rfl rfl rfl rfl ?_
        refine hV.run 3 [] (ws' := wX4 12 (sC (sC σ 23 (jput 200 (σ 23) (σ 0 9) q1)) 24 (jput 512 (σ 24) q2 ((σ 0 9) + 1))) τ) (pc' := 98) (ls' := [(2, .int q2), (1, .int q1), (0, .ref 0)]) (st' := [.int (σ 0 9), .ref 0]) (ps := []) rfl trivial ?_
        obtain ⟨q6, hq6, h⟩ := am_bind h
        refine hV.cOv (as := [.int (σ 0 9)]) (rest := []) (st := [.int (σ 0 9), .ref 0]) (ws2 := wX4 12 q6 τ) (pc2 := 101) kX4_164 (c_X4_store l n (sC (sC σ 23 (jput 200 (σ 23) (σ 0 9) q1)) 24 (jput 512 (σ 24) q2 ((σ 0 9) + 1))) τ (σ 0 9) q6 hq6) rfl rfl rfl rfl rfl rfl rfl rfl rfl ?_
        refine hV.run 6 [] (ws' := wX4 12 (sC q6 0 (am_u (q6 0) 9 ((q6 0 9) + 1))) τ) (pc' := 111) (ls' := [(2, .int q2), (1, .int q1), (0, .ref 0)]) (st' := []) (ps := []) rfl trivial ?_
        cases h
        exact hV.rv rfl rfl rfl hP
      · rw [if_neg c5] at h
        refine hV.run 7 [0] (ws' := wX4 12 σ τ) (pc' := 61) (ls' := [(2, .int q2), (1, .int q1), (0, .ref 0)]) (st' := []) (ps := [¬ ((jat 201 (σ 22) (σ 0 9)) + (σ 3 4)) ≤ 19900]) rfl ⟨c5, trivial⟩ ?_
        refine hV.pick [2] (ls' := [(0, .ref 0)]) rfl ?_
        exact p_X4_keep_J61 hV n τ res hP σ h
  · rw [if_neg c3] at h
    refine hV.run 1 [0] (ws' := wX4 12 σ τ) (pc' := 22) (ls' := [(2, .int q2), (1, .int q1), (0, .ref 0)]) (st' := []) (ps := [¬ (jat 512 (σ 24) q2) = 0]) rfl ⟨c3, trivial⟩ ?_
    cases h
    exact hV.rv rfl rfl rfl hP

