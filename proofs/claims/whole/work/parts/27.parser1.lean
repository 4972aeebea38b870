def X1_jointOf_J19 (σ : am_M) (l1 : Int32) (s0 : Int32) : Int32 := if (l1 - 100) = 42 then (-12) else (if (l1 - 100) = 43 then (-10) else (if (l1 - 100) = 44 then (0) else (if (l1 - 100) = 45 then (-11) else (if (l1 - 100) = 46 then (0) else (if (l1 - 100) = 47 then (-13) else (if (l1 - 100) = 48 then (0) else (if (l1 - 100) = 49 then (0) else (if (l1 - 100) = 50 then (0) else (if (l1 - 100) = 51 then (0) else (if (l1 - 100) = 52 then (0) else (if (l1 - 100) = 53 then (0) else (if (l1 - 100) = 54 then (0) else (if (l1 - 100) = 55 then (0) else (if (l1 - 100) = 56 then (0) else (if (l1 - 100) = 57 then (0) else (if (l1 - 100) = 58 then (0) else (if (l1 - 100) = 59 then (0) else (if (l1 - 100) = 60 then (if s0 = 0 then (0) else (-14)) else (if (l1 - 100) = 61 then (if s0 = 0 then (0) else (-15)) else (0))))))))))))))))))))
set_option maxRecDepth 100000 in
set_option maxHeartbeats 4000000 in
theorem p_X1_jointOf_J19 {l : Launch} {Post : Option Value → am_W → Prop} {V : am_VT} (hV : am_B l RX1 false 1 (am_cdT' tX1_jointOf) (am_rfL rfX1) (some .int) Post 17 V) (σ : am_M) (res : Int32) (hP : Post (some (.int res)) (wX1 σ)) (l1 : Int32) (s0 : Int32) (h : X1_jointOf_J19 σ l1 s0 = res) : V (wX1 σ) 19 [(1, .int l1)] [.int s0] := by
  unfold X1_jointOf_J19 at h
  by_cases c1 : (l1 - 100) = 42
  · rw [if_pos c1] at h
    refine hV.run 6 [1] (ws' := wX1 σ) (pc' := 128) (ls' := [(2, .int s0), (1, .int l1)]) (st' := [.int (-12)]) (ps := [(l1 - 100).toInt = 42 + ((0 : Nat) : Int), 0 < 20, ¬ 61 < (l1 - 100).toInt]) rfl ⟨(by rw [c1]; decide), (by decide), (by rw [c1]; decide), trivial⟩ ?_
    subst h
    exact hV.ri rfl rfl rfl hP
  · rw [if_neg c1] at h
    by_cases c2 : (l1 - 100) = 43
    · rw [if_pos c2] at h
      refine hV.run 6 [2] (ws' := wX1 σ) (pc' := 122) (ls' := [(2, .int s0), (1, .int l1)]) (st' := [.int (-10)]) (ps := [(l1 - 100).toInt = 42 + ((1 : Nat) : Int), 1 < 20, ¬ 61 < (l1 - 100).toInt]) rfl ⟨(by rw [c2]; decide), (by decide), (by rw [c2]; decide), trivial⟩ ?_
      subst h
      exact hV.ri rfl rfl rfl hP
    · rw [if_neg c2] at h
      by_cases c3 : (l1 - 100) = 44
      · rw [if_pos c3] at h
        refine hV.run 6 [3] (ws' := wX1 σ) (pc' := 155) (ls' := [(2, .int s0), (1, .int l1)]) (st' := [.int 0]) (ps := [(l1 - 100).toInt = 42 + ((2 : Nat) : Int), 2 < 20, ¬ 61 < (l1 - 100).toInt]) rfl ⟨(by rw [c3]; decide), (by decide), (by rw [c3]; decide), trivial⟩ ?_
        subst h
        exact hV.ri rfl rfl rfl hP
      · rw [if_neg c3] at h
        by_cases c4 : (l1 - 100) = 45
        · rw [if_pos c4] at h
          refine hV.run 6 [4] (ws' := wX1 σ) (pc' := 125) (ls' := [(2, .int s0), (1, .int l1)]) (st' := [.int (-11)]) (ps := [(l1 - 100).toInt = 42 + ((3 : Nat) : Int), 3 < 20, ¬ 61 < (l1 - 100).toInt]) rfl ⟨(by rw [c4]; decide), (by decide), (by rw [c4]; decide), trivial⟩ ?_
          subst h
          exact hV.ri rfl rfl rfl hP
        · rw [if_neg c4] at h
          by_cases c5 : (l1 - 100) = 46
          · rw [if_pos c5] at h
            refine hV.run 6 [5] (ws' := wX1 σ) (pc' := 155) (ls' := [(2, .int s0), (1, .int l1)]) (st' := [.int 0]) (ps := [(l1 - 100).toInt = 42 + ((4 : Nat) : Int), 4 < 20, ¬ 61 < (l1 - 100).toInt]) rfl ⟨(by rw [c5]; decide), (by decide), (by rw [c5]; decide), trivial⟩ ?_
            subst h
            exact hV.ri rfl rfl rfl hP
          · rw [if_neg c5] at h
            by_cases c6 : (l1 - 100) = 47
            · rw [if_pos c6] at h
              refine hV.run 6 [6] (ws' := wX1 σ) (pc' := 131) (ls' := [(2, .int s0), (1, .int l1)]) (st' := [.int (-13)]) (ps := [(l1 - 100).toInt = 42 + ((5 : Nat) : Int), 5 < 20, ¬ 61 < (l1 - 100).toInt]) rfl ⟨(by rw [c6]; decide), (by decide), (by rw [c6]; decide), trivial⟩ ?_
              subst h
              exact hV.ri rfl rfl rfl hP
            · rw [if_neg c6] at h
              by_cases c7 : (l1 - 100) = 48
              · rw [if_pos c7] at h
                refine hV.run 6 [7] (ws' := wX1 σ) (pc' := 155) (ls' := [(2, .int s0), (1, .int l1)]) (st' := [.int 0]) (ps := [(l1 - 100).toInt = 42 + ((6 : Nat) : Int), 6 < 20, ¬ 61 < (l1 - 100).toInt]) rfl ⟨(by rw [c7]; decide), (by decide), (by rw [c7]; decide), trivial⟩ ?_
                subst h
                exact hV.ri rfl rfl rfl hP
              · rw [if_neg c7] at h
                by_cases c8 : (l1 - 100) = 49
                · rw [if_pos c8] at h
                  refine hV.run 6 [8] (ws' := wX1 σ) (pc' := 155) (ls' := [(2, .int s0), (1, .int l1)]) (st' := [.int 0]) (ps := [(l1 - 100).toInt = 42 + ((7 : Nat) : Int), 7 < 20, ¬ 61 < (l1 - 100).toInt]) rfl ⟨(by rw [c8]; decide), (by decide), (by rw [c8]; decide), trivial⟩ ?_
                  subst h
                  exact hV.ri rfl rfl rfl hP
                · rw [if_neg c8] at h
                  by_cases c9 : (l1 - 100) = 50
                  · rw [if_pos c9] at h
                    refine hV.run 6 [9] (ws' := wX1 σ) (pc' := 155) (ls' := [(2, .int s0), (1, .int l1)]) (st' := [.int 0]) (ps := [(l1 - 100).toInt = 42 + ((8 : Nat) : Int), 8 < 20, ¬ 61 < (l1 - 100).toInt]) rfl ⟨(by rw [c9]; decide), (by decide), (by rw [c9]; decide), trivial⟩ ?_
                    subst h
                    exact hV.ri rfl rfl rfl hP
                  · rw [if_neg c9] at h
                    by_cases c10 : (l1 - 100) = 51
                    · rw [if_pos c10] at h
                      refine hV.run 6 [10] (ws' := wX1 σ) (pc' := 155) (ls' := [(2, .int s0), (1, .int l1)]) (st' := [.int 0]) (ps := [(l1 - 100).toInt = 42 + ((9 : Nat) : Int), 9 < 20, ¬ 61 < (l1 - 100).toInt]) rfl ⟨(by rw [c10]; decide), (by decide), (by rw [c10]; decide), trivial⟩ ?_
                      subst h
                      exact hV.ri rfl rfl rfl hP
                    · rw [if_neg c10] at h
                      by_cases c11 : (l1 - 100) = 52
                      · rw [if_pos c11] at h
                        refine hV.run 6 [11] (ws' := wX1 σ) (pc' := 155) (ls' := [(2, .int s0), (1, .int l1)]) (st' := [.int 0]) (ps := [(l1 - 100).toInt = 42 + ((10 : Nat) : Int), 10 < 20, ¬ 61 < (l1 - 100).toInt]) rfl ⟨(by rw [c11]; decide), (by decide), (by rw [c11]; decide), trivial⟩ ?_
                        subst h
                        exact hV.ri rfl rfl rfl hP
                      · rw [if_neg c11] at h
                        by_cases c12 : (l1 - 100) = 53
                        · rw [if_pos c12] at h
                          refine hV.run 6 [12] (ws' := wX1 σ) (pc' := 155) (ls' := [(2, .int s0), (1, .int l1)]) (st' := [.int 0]) (ps := [(l1 - 100).toInt = 42 + ((11 : Nat) : Int), 11 < 20, ¬ 61 < (l1 - 100).toInt]) rfl ⟨(by rw [c12]; decide), (by decide), (by rw [c12]; decide), trivial⟩ ?_
                          subst h
                          exact hV.ri rfl rfl rfl hP
                        · rw [if_neg c12] at h
                          by_cases c13 : (l1 - 100) = 54
                          · rw [if_pos c13] at h
                            refine hV.run 6 [13] (ws' := wX1 σ) (pc' := 155) (ls' := [(2, .int s0), (1, .int l1)]) (st' := [.int 0]) (ps := [(l1 - 100).toInt = 42 + ((12 : Nat) : Int), 12 < 20, ¬ 61 < (l1 - 100).toInt]) rfl ⟨(by rw [c13]; decide), (by decide), (by rw [c13]; decide), trivial⟩ ?_
                            subst h
                            exact hV.ri rfl rfl rfl hP
                          · rw [if_neg c13] at h
                            by_cases c14 : (l1 - 100) = 55
                            · rw [if_pos c14] at h
                              refine hV.run 6 [14] (ws' := wX1 σ) (pc' := 155) (ls' := [(2, .int s0), (1, .int l1)]) (st' := [.int 0]) (ps := [(l1 - 100).toInt = 42 + ((13 : Nat) : Int), 13 < 20, ¬ 61 < (l1 - 100).toInt]) rfl ⟨(by rw [c14]; decide), (by decide), (by rw [c14]; decide), trivial⟩ ?_
                              subst h
                              exact hV.ri rfl rfl rfl hP
                            · rw [if_neg c14] at h
                              by_cases c15 : (l1 - 100) = 56
                              · rw [if_pos c15] at h
                                refine hV.run 6 [15] (ws' := wX1 σ) (pc' := 155) (ls' := [(2, .int s0), (1, .int l1)]) (st' := [.int 0]) (ps := [(l1 - 100).toInt = 42 + ((14 : Nat) : Int), 14 < 20, ¬ 61 < (l1 - 100).toInt]) rfl ⟨(by rw [c15]; decide), (by decide), (by rw [c15]; decide), trivial⟩ ?_
                                subst h
                                exact hV.ri rfl rfl rfl hP
                              · rw [if_neg c15] at h
                                by_cases c16 : (l1 - 100) = 57
                                · rw [if_pos c16] at h
                                  refine hV.run 6 [16] (ws' := wX1 σ) (pc' := 155) (ls' := [(2, .int s0), (1, .int l1)]) (st' := [.int 0]) (ps := [(l1 - 100).toInt = 42 + ((15 : Nat) : Int), 15 < 20, ¬ 61 < (l1 - 100).toInt]) rfl ⟨(by rw [c16]; decide), (by decide), (by rw [c16]; decide), trivial⟩ ?_
                                  subst h
                                  exact hV.ri rfl rfl rfl hP
                                · rw [if_neg c16] at h
                                  by_cases c17 : (l1 - 100) = 58
                                  · rw [if_pos c17] at h
                                    refine hV.run 6 [17] (ws' := wX1 σ) (pc' := 155) (ls' := [(2, .int s0), (1, .int l1)]) (st' := [.int 0]) (ps := [(l1 - 100).toInt = 42 + ((16 : Nat) : Int), 16 < 20, ¬ 61 < (l1 - 100).toInt]) rfl ⟨(by rw [c17]; decide), (by decide), (by rw [c17]; decide), trivial⟩ ?_
                                    subst h
                                    exact hV.ri rfl rfl rfl hP
                                  · rw [if_neg c17] at h
                                    by_cases c18 : (l1 - 100) = 59
                                    · rw [if_pos c18] at h
                                      refine hV.run 6 [18] (ws' := wX1 σ) (pc' := 155) (ls' := [(2, .int s0), (1, .int l1)]) (st' := [.int 0]) (ps := [(l1 - 100).toInt = 42 + ((17 : Nat) : Int), 17 < 20, ¬ 61 < (l1 - 100).toInt]) rfl ⟨(by rw [c18]; decide), (by decide), (by rw [c18]; decide), trivial⟩ ?_
                                      subst h
                                      exact hV.ri rfl rfl rfl hP
                                    · rw [if_neg c18] at h
                                      by_cases c19 : (l1 - 100) = 60
                                      · rw [if_pos c19] at h
                                        by_cases c20 : s0 = 0
                                        · rw [if_pos c20] at h
                                          refine hV.run 8 [19, 1] (ws' := wX1 σ) (pc' := 142) (ls' := [(2, .int s0), (1, .int l1)]) (st' := [.int 0]) (ps := [(l1 - 100).toInt = 42 + ((18 : Nat) : Int), 18 < 20, ¬ 61 < (l1 - 100).toInt, s0 = 0]) rfl ⟨(by rw [c19]; decide), (by decide), (by rw [c19]; decide), c20, trivial⟩ ?_
                                          subst h
                                          exact hV.ri rfl rfl rfl hP
                                        · rw [if_neg c20] at h
                                          refine hV.run 9 [19, 0] (ws' := wX1 σ) (pc' := 142) (ls' := [(2, .int s0), (1, .int l1)]) (st' := [.int (-14)]) (ps := [(l1 - 100).toInt = 42 + ((18 : Nat) : Int), 18 < 20, ¬ 61 < (l1 - 100).toInt, ¬ s0 = 0]) rfl ⟨(by rw [c19]; decide), (by decide), (by rw [c19]; decide), c20, trivial⟩ ?_
                                          subst h
                                          exact hV.ri rfl rfl rfl hP
                                      · rw [if_neg c19] at h
                                        by_cases c21 : (l1 - 100) = 61
                                        · rw [if_pos c21] at h
                                          by_cases c22 : s0 = 0
                                          · rw [if_pos c22] at h
                                            refine hV.run 8 [20, 1] (ws' := wX1 σ) (pc' := 153) (ls' := [(2, .int s0), (1, .int l1)]) (st' := [.int 0]) (ps := [(l1 - 100).toInt = 42 + ((19 : Nat) : Int), 19 < 20, ¬ 61 < (l1 - 100).toInt, s0 = 0]) rfl ⟨(by rw [c21]; decide), (by decide), (by rw [c21]; decide), c22, trivial⟩ ?_
                                            subst h
                                            exact hV.ri rfl rfl rfl hP
                                          · rw [if_neg c22] at h
                                            refine hV.run 9 [20, 0] (ws' := wX1 σ) (pc' := 153) (ls' := [(2, .int s0), (1, .int l1)]) (st' := [.int (-15)]) (ps := [(l1 - 100).toInt = 42 + ((19 : Nat) : Int), 19 < 20, ¬ 61 < (l1 - 100).toInt, ¬ s0 = 0]) rfl ⟨(by rw [c21]; decide), (by decide), (by rw [c21]; decide), c22, trivial⟩ ?_
                                            subst h
                                            exact hV.ri rfl rfl rfl hP
                                        · rw [if_neg c21] at h
                                          refine hV.run 6 [0] (ws' := wX1 σ) (pc' := 155) (ls' := [(2, .int s0), (1, .int l1)]) (st' := [.int 0]) (ps := [(l1 - 100).toInt < 42 ∨ 61 < (l1 - 100).toInt]) rfl ⟨(by have c1_ := am_ne c1 (by decide : (42 : Int32).toInt = 42); have c2_ := am_ne c2 (by decide : (43 : Int32).toInt = 43); have c3_ := am_ne c3 (by decide : (44 : Int32).toInt = 44); have c4_ := am_ne c4 (by decide : (45 : Int32).toInt = 45); have c5_ := am_ne c5 (by decide : (46 : Int32).toInt = 46); have c6_ := am_ne c6 (by decide : (47 : Int32).toInt = 47); have c7_ := am_ne c7 (by decide : (48 : Int32).toInt = 48); have c8_ := am_ne c8 (by decide : (49 : Int32).toInt = 49); have c9_ := am_ne c9 (by decide : (50 : Int32).toInt = 50); have c10_ := am_ne c10 (by decide : (51 : Int32).toInt = 51); have c11_ := am_ne c11 (by decide : (52 : Int32).toInt = 52); have c12_ := am_ne c12 (by decide : (53 : Int32).toInt = 53); have c13_ := am_ne c13 (by decide : (54 : Int32).toInt = 54); have c14_ := am_ne c14 (by decide : (55 : Int32).toInt = 55); have c15_ := am_ne c15 (by decide : (56 : Int32).toInt = 56); have c16_ := am_ne c16 (by decide : (57 : Int32).toInt = 57); have c17_ := am_ne c17 (by decide : (58 : Int32).toInt = 58); have c18_ := am_ne c18 (by decide : (59 : Int32).toInt = 59); have c19_ := am_ne c19 (by decide : (60 : Int32).toInt = 60); have c21_ := am_ne c21 (by decide : (61 : Int32).toInt = 61); omega), trivial⟩ ?_
                                          subst h
                                          exact hV.ri rfl rfl rfl hP
def X1_jointOf (σ : am_M) (a1 : Int32) : Int32 := if (((σ 0 10) >>> ((σ 0 9) &&& 31)) &&& 1) = 0 then (X1_jointOf_J19 σ a1 1) else (X1_jointOf_J19 σ a1 0)
set_option maxRecDepth 100000 in
set_option maxHeartbeats 4000000 in
theorem c_X1_jointOf (l : Launch) (σ : am_M) (a1 : Int32) : am_Con l yX1_jointOf cX1_jointOf 3 (some .int) 1 [.ref 0, .int a1] (wX1 σ) (fun (r : Option Value) (w : am_W) => r = (some (.int (X1_jointOf σ a1))) ∧ w = (wX1 σ)) := by
  obtain ⟨res, h⟩ : ∃ res, (X1_jointOf σ a1) = res := ⟨_, rfl⟩
  rw [h]
  refine am_metn (n0 := 17) (own := RX1) (cd := am_cdT' tX1_jointOf) (rf := am_rfL rfX1) (ini := false) rfl (by decide +kernel) rfl (by decide) dX1_jointOf rfX1_ok (Nat.le_of_ble_eq_true rfl) ?_
  intro V hV
  have hP : (fun (r : Option Value) (w : am_W) => r = (some (.int res)) ∧ w = (wX1 σ)) (some (.int res)) (wX1 σ) := ⟨rfl, rfl⟩
  show V (wX1 σ) 0 [(0, .ref 0), (1, .int a1)] []
  unfold X1_jointOf at h
  by_cases c1 : (((σ 0 10) >>> ((σ 0 9) &&& 31)) &&& 1) = 0
  · rw [if_pos c1] at h
    refine hV.run 10 [0] (ws' := wX1 σ) (pc' := 19) (ls' := [(0, .ref 0), (1, .int a1)]) (st' := [.int 1]) (ps := [(((σ 0 10) >>> ((σ 0 9) &&& 31)) &&& 1) = 0]) rfl ⟨c1, trivial⟩ ?_
    refine hV.pick [1] (ls' := [(1, .int a1)]) rfl ?_
    exact p_X1_jointOf_J19 hV σ res hP a1 1 h
  · rw [if_neg c1] at h
    refine hV.run 9 [1] (ws' := wX1 σ) (pc' := 19) (ls' := [(0, .ref 0), (1, .int a1)]) (st' := [.int 0]) (ps := [¬ (((σ 0 10) >>> ((σ 0 9) &&& 31)) &&& 1) = 0]) rfl ⟨c1, trivial⟩ ?_
    refine hV.pick [1] (ls' := [(1, .int a1)]) rfl ?_
    exact p_X1_jointOf_J19 hV σ res hP a1 0 h

def X1_ask_J152 (n : Nat) (σ : am_M) : Option am_M := (X1_popDownTo n σ 0).bind (fun q1 => (X3_emit (am_sub q1 6) (-20)).bind (fun q2 => some (am_put q1 6 8 q2)))
set_option maxRecDepth 100000 in
set_option maxHeartbeats 4000000 in
theorem p_X1_ask_J152 {l : Launch} {Post : Option Value → am_W → Prop} {V : am_VT} (hV : am_B l RX1 false 4 (am_cdT' tX1_ask) (am_rfL rfX1) none Post 17 V) (n : Nat) (res : am_M) (hP : Post none (wX1 res)) (σ : am_M) (h : X1_ask_J152 n σ = some res) : V (wX1 σ) 152 [(0, .ref 0)] [] := by
  unfold X1_ask_J152 at h
  refine hV.run 2 [] (ws' := wX1 σ) (pc' := 154) (ls' := [(0, .ref 0)]) (st' := [.int 0, .ref 0]) (ps := []) rfl trivial ?_
  obtain ⟨q1, hq1, h⟩ := am_bind h
  refine hV.cOv (as := [.int 0]) (rest := []) (st := [.int 0, .ref 0]) (ws2 := wX1 q1) (pc2 := 157) kX1_158 (c_X1_popDownTo l n σ 0 q1 hq1) rfl rfl rfl rfl rfl rfl rfl rfl rfl ?_
  refine hV.run 3 [] (ws' := wX1 q1) (pc' := 163) (ls' := [(0, .ref 0)]) (st' := [.int (-20), .ref 6]) (ps := []) rfl trivial ?_
  obtain ⟨q2, hq2, h⟩ := am_bind h
  refine hV.cBv 6 8 [] (as := [.int (-20)]) (rest := []) (st := [.int (-20), .ref 6]) (ws2 := wX1 (am_put q1 6 8 q2)) (pc2 := 166) kX1_161 (c_X3_emit l (am_sub q1 6) (-20) q2 hq2) rfl rfl rfl rfl rfl rfl rfl rfl rfl rfl rfl rfl rfl rfl ?_
  cases h
  exact hV.rv rfl rfl rfl hP
def X1_ask_J140 (n : Nat) (σ : am_M) : Option am_M := if (σ 0 9) ≤ 0 then (X1_ask_J152 n σ) else (X1_refuse σ 1).bind (fun q2 => X1_ask_J152 n q2)
set_option maxRecDepth 100000 in
set_option maxHeartbeats 4000000 in
theorem p_X1_ask_J140 {l : Launch} {Post : Option Value → am_W → Prop} {V : am_VT} (hV : am_B l RX1 false 4 (am_cdT' tX1_ask) (am_rfL rfX1) none Post 17 V) (n : Nat) (res : am_M) (hP : Post none (wX1 res)) (σ : am_M) (h : X1_ask_J140 n σ = some res) : V (wX1 σ) 140 [(0, .ref 0)] [] := by
  unfold X1_ask_J140 at h
  by_cases c1 : (σ 0 9) ≤ 0
  · rw [if_pos c1] at h
    refine hV.run 3 [1] (ws' := wX1 σ) (pc' := 152) (ls' := [(0, .ref 0)]) (st' := []) (ps := [(σ 0 9) ≤ 0]) rfl ⟨c1, trivial⟩ ?_
    exact p_X1_ask_J152 hV n res hP σ h
  · rw [if_neg c1] at h
    refine hV.run 5 [0] (ws' := wX1 σ) (pc' := 149) (ls' := [(0, .ref 0)]) (st' := [.int 1, .ref 0]) (ps := [¬ (σ 0 9) ≤ 0]) rfl ⟨c1, trivial⟩ ?_
    obtain ⟨q2, hq2, h⟩ := am_bind h
    refine hV.cOv (as := [.int 1]) (rest := []) (st := [.int 1, .ref 0]) (ws2 := wX1 q2) (pc2 := 152) kX1_65 (c_X1_refuse l σ 1 q2 hq2) rfl rfl rfl rfl rfl rfl rfl rfl rfl ?_
    exact p_X1_ask_J152 hV n res hP q2 h
def X1_ask_J134 (n : Nat) (kont51 : am_M → Int32 → Int32 → Option am_M) (σ : am_M) (l4 : Int32) (l5 : Int32) : Option am_M := kont51 σ l4 (l5 + 1)
set_option maxRecDepth 100000 in
set_option maxHeartbeats 4000000 in
theorem p_X1_ask_J134 {l : Launch} {Post : Option Value → am_W → Prop} {V : am_VT} (hV : am_B l RX1 false 4 (am_cdT' tX1_ask) (am_rfL rfX1) none Post 17 V) (n : Nat) (res : am_M) (hP : Post none (wX1 res)) (kont51 : am_M → Int32 → Int32 → Option am_M) (hk51 : ∀ (σ : am_M) (l4 : Int32) (l5 : Int32), kont51 σ l4 l5 = some res → V (wX1 σ) 51 [(0, .ref 0), (4, .int l4), (5, .int l5)] []) (σ : am_M) (l4 : Int32) (l5 : Int32) (h : X1_ask_J134 n kont51 σ l4 l5 = some res) : V (wX1 σ) 134 [(0, .ref 0), (4, .int l4), (5, .int l5)] [] := by
  unfold X1_ask_J134 at h
  refine hV.run 2 [] (ws' := wX1 σ) (pc' := 51) (ls' := [(5, .int (l5 + 1)), (0, .ref 0), (4, .int l4)]) (st' := []) (ps := []) rfl trivial ?_
  refine hV.pick [1, 2, 0] (ls' := [(0, .ref 0), (4, .int l4), (5, .int (l5 + 1))]) rfl ?_
  exact hk51 σ l4 (l5 + 1) h
def X1_ask_B51 (n : Nat) (kont51 : am_M → Int32 → Int32 → Option am_M) (σ : am_M) (l4 : Int32) (l5 : Int32) : Option am_M := if 700 < l5 then (X1_ask_J140 n σ) else (if (σ 0 2) = 0 then (if l4 = 0 then (if (X1_jointOf σ (X5_sort (am_sub σ 1))) = 0 then (if (X5_sort (am_sub σ 1)) = 141 then (if (σ 0 9) ≤ 0 then (X1_ask_J140 n σ) else (X1_closeParenthesis n σ).bind (fun q7 => X1_ask_J134 n kont51 q7 l4 l5)) else (X1_ask_J140 n σ)) else (X1_push n σ (X1_jointOf σ (X5_sort (am_sub σ 1)))).bind (fun q8 => X1_ask_J134 n kont51 q8 1 l5)) else (X1_part σ).bind (fun q9 => X1_ask_J134 n kont51 q9.2 (b2i q9.1) l5)) else (X1_ask_J140 n σ))
def X1_ask_L51 (n : Nat) : Nat → am_M → Int32 → Int32 → Option am_M
 | 0 => fun _ _ _ => none
 | k + 1 => fun σ l4 l5 => X1_ask_B51 n (X1_ask_L51 n k) σ l4 l5
set_option maxRecDepth 100000 in
set_option maxHeartbeats 4000000 in
theorem p_X1_ask_B51 {l : Launch} {Post : Option Value → am_W → Prop} {V : am_VT} (hV : am_B l RX1 false 4 (am_cdT' tX1_ask) (am_rfL rfX1) none Post 17 V) (n : Nat) (res : am_M) (hP : Post none (wX1 res)) (kont51 : am_M → Int32 → Int32 → Option am_M) (hk51 : ∀ (σ : am_M) (l4 : Int32) (l5 : Int32), kont51 σ l4 l5 = some res → V (wX1 σ) 51 [(0, .ref 0), (4, .int l4), (5, .int l5)] []) (σ : am_M) (l4 : Int32) (l5 : Int32) (h : X1_ask_B51 n kont51 σ l4 l5 = some res) : V (wX1 σ) 51 [(0, .ref 0), (4, .int l4), (5, .int l5)] [] := by
  unfold X1_ask_B51 at h
  by_cases c1 : 700 < l5
  · rw [if_pos c1] at h
    refine hV.run 3 [1] (ws' := wX1 σ) (pc' := 140) (ls' := [(0, .ref 0), (4, .int l4), (5, .int l5)]) (st' := []) (ps := [700 < l5]) rfl ⟨c1, trivial⟩ ?_
    refine hV.pick [0] (ls' := [(0, .ref 0)]) rfl ?_
    exact p_X1_ask_J140 hV n res hP σ h
  · rw [if_neg c1] at h
    by_cases c2 : (σ 0 2) = 0
    · rw [if_pos c2] at h
      refine hV.run 9 [0, 0] (ws' := wX1 σ) (pc' := 71) (ls' := [(0, .ref 0), (4, .int l4), (5, .int l5)]) (st' := [.ref 1, .ref 0]) (ps := [¬ 700 < l5, (σ 0 2) = 0]) rfl ⟨c1, c2, trivial⟩ ?_
      refine hV.cBi 1 5 [] (as := []) (rest := [.ref 0]) (st := [.ref 1, .ref 0]) (ws2 := wX1 σ) (pc2 := 74) kX1_52 (c_X5_sort l (am_sub σ 1)) rfl rfl rfl rfl rfl rfl rfl rfl rfl rfl rfl rfl rfl rfl ?_
      refine hV.cOi (as := [.int (X5_sort (am_sub σ 1))]) (rest := []) (st := [.int (X5_sort (am_sub σ 1)), .ref 0]) (ws2 := wX1 σ) (pc2 := 77) kX1_145 (c_X1_jointOf l σ (X5_sort (am_sub σ 1))) rfl rfl rfl rfl rfl rfl rfl rfl rfl ?_
      by_cases c3 : l4 = 0
      · rw [if_pos c3] at h
        by_cases c4 : (X1_jointOf σ (X5_sort (am_sub σ 1))) = 0
        · rw [if_pos c4] at h
          refine hV.run 7 [1, 1] (ws' := wX1 σ) (pc' := 114) (ls' := [(6, .int (X1_jointOf σ (X5_sort (am_sub σ 1)))), (0, .ref 0), (4, .int l4), (5, .int l5)]) (st' := [.ref 1]) (ps := [l4 = 0, (X1_jointOf σ (X5_sort (am_sub σ 1))) = 0]) rfl ⟨c3, c4, trivial⟩ ?_
          refine hV.cBi 1 5 [] (as := []) (rest := []) (st := [.ref 1]) (ws2 := wX1 σ) (pc2 := 117) kX1_52 (c_X5_sort l (am_sub σ 1)) rfl rfl rfl rfl rfl rfl rfl rfl rfl rfl rfl rfl rfl rfl ?_
          by_cases c5 : (X5_sort (am_sub σ 1)) = 141
          · rw [if_pos c5] at h
            by_cases c6 : (σ 0 9) ≤ 0
            · rw [if_pos c6] at h
              refine hV.run 5 [0, 1] (ws' := wX1 σ) (pc' := 140) (ls' := [(6, .int (X1_jointOf σ (X5_sort (am_sub σ 1)))), (0, .ref 0), (4, .int l4), (5, .int l5)]) (st' := []) (ps := [(X5_sort (am_sub σ 1)) = 141, (σ 0 9) ≤ 0]) rfl ⟨c5, c6, trivial⟩ ?_
              refine hV.pick [1] (ls' := [(0, .ref 0)]) rfl ?_
              exact p_X1_ask_J140 hV n res hP σ h
            · rw [if_neg c6] at h
              refine hV.run 6 [0, 0] (ws' := wX1 σ) (pc' := 131) (ls' := [(6, .int (X1_jointOf σ (X5_sort (am_sub σ 1)))), (0, .ref 0), (4, .int l4), (5, .int l5)]) (st' := [.ref 0]) (ps := [(X5_sort (am_sub σ 1)) = 141, ¬ (σ 0 9) ≤ 0]) rfl ⟨c5, c6, trivial⟩ ?_
              obtain ⟨q7, hq7, h⟩ := am_bind h
              refine hV.cOv (as := []) (rest := []) (st := [.ref 0]) (ws2 := wX1 q7) (pc2 := 134) kX1_155 (c_X1_closeParenthesis l n σ q7 hq7) rfl rfl rfl rfl rfl rfl rfl rfl rfl ?_
              refine hV.pick [1, 2, 3] (ls' := [(0, .ref 0), (4, .int l4), (5, .int l5)]) rfl ?_
              exact p_X1_ask_J134 hV n res hP kont51 hk51 q7 l4 l5 h
          · rw [if_neg c5] at h
            refine hV.run 2 [1] (ws' := wX1 σ) (pc' := 140) (ls' := [(6, .int (X1_jointOf σ (X5_sort (am_sub σ 1)))), (0, .ref 0), (4, .int l4), (5, .int l5)]) (st' := []) (ps := [¬ (X5_sort (am_sub σ 1)) = 141]) rfl ⟨c5, trivial⟩ ?_
            refine hV.pick [1] (ls' := [(0, .ref 0)]) rfl ?_
            exact p_X1_ask_J140 hV n res hP σ h
        · rw [if_neg c4] at h
          refine hV.run 7 [1, 0] (ws' := wX1 σ) (pc' := 101) (ls' := [(6, .int (X1_jointOf σ (X5_sort (am_sub σ 1)))), (0, .ref 0), (4, .int l4), (5, .int l5)]) (st' := [.int (X1_jointOf σ (X5_sort (am_sub σ 1))), .ref 0]) (ps := [l4 = 0, ¬ (X1_jointOf σ (X5_sort (am_sub σ 1))) = 0]) rfl ⟨c3, c4, trivial⟩ ?_
          obtain ⟨q8, hq8, h⟩ := am_bind h
          refine hV.cOv (as := [.int (X1_jointOf σ (X5_sort (am_sub σ 1)))]) (rest := []) (st := [.int (X1_jointOf σ (X5_sort (am_sub σ 1))), .ref 0]) (ws2 := wX1 q8) (pc2 := 104) kX1_152 (c_X1_push l n σ (X1_jointOf σ (X5_sort (am_sub σ 1))) q8 hq8) rfl rfl rfl rfl rfl rfl rfl rfl rfl ?_
          refine hV.run 3 [] (ws' := wX1 q8) (pc' := 134) (ls' := [(4, .int 1), (6, .int (X1_jointOf σ (X5_sort (am_sub σ 1)))), (0, .ref 0), (5, .int l5)]) (st' := []) (ps := []) rfl trivial ?_
          refine hV.pick [2, 0, 3] (ls' := [(0, .ref 0), (4, .int 1), (5, .int l5)]) rfl ?_
          exact p_X1_ask_J134 hV n res hP kont51 hk51 q8 1 l5 h
      · rw [if_neg c3] at h
        refine hV.run 4 [0] (ws' := wX1 σ) (pc' := 85) (ls' := [(6, .int (X1_jointOf σ (X5_sort (am_sub σ 1)))), (0, .ref 0), (4, .int l4), (5, .int l5)]) (st' := [.ref 0]) (ps := [¬ l4 = 0]) rfl ⟨c3, trivial⟩ ?_
        obtain ⟨q9, hq9, h⟩ := am_bind h
        refine hV.cOi (as := []) (rest := []) (st := [.ref 0]) (ws2 := wX1 q9.2) (pc2 := 88) kX1_148 (c_X1_part l σ q9 hq9) rfl rfl rfl rfl rfl rfl rfl rfl rfl ?_
        refine hV.run 2 [] (ws' := wX1 q9.2) (pc' := 134) (ls' := [(4, .int (b2i q9.1)), (6, .int (X1_jointOf σ (X5_sort (am_sub σ 1)))), (0, .ref 0), (5, .int l5)]) (st' := []) (ps := []) rfl trivial ?_
        refine hV.pick [2, 0, 3] (ls' := [(0, .ref 0), (4, .int (b2i q9.1)), (5, .int l5)]) rfl ?_
        exact p_X1_ask_J134 hV n res hP kont51 hk51 q9.2 (b2i q9.1) l5 h
    · rw [if_neg c2] at h
      refine hV.run 6 [0, 1] (ws' := wX1 σ) (pc' := 140) (ls' := [(0, .ref 0), (4, .int l4), (5, .int l5)]) (st' := []) (ps := [¬ 700 < l5, ¬ (σ 0 2) = 0]) rfl ⟨c1, c2, trivial⟩ ?_
      refine hV.pick [0] (ls' := [(0, .ref 0)]) rfl ?_
      exact p_X1_ask_J140 hV n res hP σ h
theorem p_X1_ask_L51 {l : Launch} {Post : Option Value → am_W → Prop} {V : am_VT} (hV : am_B l RX1 false 4 (am_cdT' tX1_ask) (am_rfL rfX1) none Post 17 V) (n : Nat) (res : am_M) (hP : Post none (wX1 res)) : ∀ (k : Nat) (σ : am_M) (l4 : Int32) (l5 : Int32) (h : X1_ask_L51 n k σ l4 l5 = some res), V (wX1 σ) 51 [(0, .ref 0), (4, .int l4), (5, .int l5)] [] := by
  intro k
  induction k with
  | zero => intro σ l4 l5 h; cases h
  | succ k ih => intro σ l4 l5 h; exact p_X1_ask_B51 hV n res hP _ ih σ l4 l5 h
def X1_ask_J42 (n : Nat) (σ : am_M) (s0 : Int32) : Option am_M := X1_ask_L51 n n (sC σ 0 (am_u (σ 0) 10 s0)) 1 0
set_option maxRecDepth 100000 in
set_option maxHeartbeats 4000000 in
theorem p_X1_ask_J42 {l : Launch} {Post : Option Value → am_W → Prop} {V : am_VT} (hV : am_B l RX1 false 4 (am_cdT' tX1_ask) (am_rfL rfX1) none Post 17 V) (n : Nat) (res : am_M) (hP : Post none (wX1 res)) (σ : am_M) (s0 : Int32) (h : X1_ask_J42 n σ s0 = some res) : V (wX1 σ) 42 [(0, .ref 0)] [.int s0, .ref 0] := by
  unfold X1_ask_J42 at h
  refine hV.run 5 [] (ws' := wX1 (sC σ 0 (am_u (σ 0) 10 s0))) (pc' := 51) (ls' := [(5, .int 0), (4, .int 1), (0, .ref 0)]) (st' := []) (ps := []) rfl trivial ?_
  refine hV.pick [2, 1, 0] (ls' := [(0, .ref 0), (4, .int 1), (5, .int 0)]) rfl ?_
  exact p_X1_ask_L51 hV n res hP n (sC σ 0 (am_u (σ 0) 10 s0)) 1 0 h
def X1_ask (n : Nat) (σ : am_M) (a1 : Int32) (a2 : Int32) (a3 : Int32) : Option am_M := if a3 = 0 then (X1_ask_J42 n (sC (sC σ 0 (am_u (am_u (σ 0) 8 0) 9 0)) 12 (jput 120 (σ 12) ((a1 * 3) + a2) (σ 6 9))) 1) else (X1_ask_J42 n (sC (sC σ 0 (am_u (am_u (σ 0) 8 0) 9 0)) 12 (jput 120 (σ 12) ((a1 * 3) + a2) (σ 6 9))) 0)
set_option maxRecDepth 100000 in
set_option maxHeartbeats 4000000 in
theorem c_X1_ask (l : Launch) (n : Nat) (σ : am_M) (a1 : Int32) (a2 : Int32) (a3 : Int32) (res : am_M) (h : X1_ask n σ a1 a2 a3 = some res) : am_Con l yX1_ask cX1_ask 7 none 4 [.ref 0, .int a1, .int a2, .int a3] (wX1 σ) (fun (r : Option Value) (w : am_W) => r = none ∧ w = (wX1 res)) := by
  refine am_metn (n0 := 17) (own := RX1) (cd := am_cdT' tX1_ask) (rf := am_rfL rfX1) (ini := false) rfl (by decide +kernel) rfl (by decide) dX1_ask rfX1_ok (Nat.le_of_ble_eq_true rfl) ?_
  intro V hV
  have hP : (fun (r : Option Value) (w : am_W) => r = none ∧ w = (wX1 res)) none (wX1 res) := ⟨rfl, rfl⟩
  show V (wX1 σ) 0 [(0, .ref 0), (1, .int a1), (2, .int a2), (3, .int a3)] []
  unfold X1_ask at h
  refine hV.run 11 [] (ws' := wX1 σ) (pc' := 19) (ls' := [(0, .ref 0), (1, .int a1), (2, .int a2), (3, .int a3)]) (st' := [.int (σ 6 9), .int ((a1 * 3) + a2), .ref 12]) (ps := []) rfl trivial ?_
  refine hV.cSv (as := [.ref 0, .int ((a1 * 3) + a2), .int (σ 6 9)]) (js := [12]) (rest := []) (st := [.int (σ 6 9), .int ((a1 * 3) + a2), .ref 12]) (ws2 := wX1 (sC σ 12 (jput 120 (σ 12) ((a1 * 3) + a2) (σ 6 9)))) (pc2 := 22) kX1_104 (c_put l 1 120 (by decide) (σ 12) ((a1 * 3) + a2) (σ 6 9)) rfl rfl rfl rfl rfl rfl rfl rfl rfl rfl ?_
  by_cases c1 : a3 = 0
  · rw [if_pos c1] at h
    refine hV.run 10 [1] (ws' := wX1 (sC (sC σ 0 (am_u (am_u (σ 0) 8 0) 9 0)) 12 (jput 120 (σ 12) ((a1 * 3) + a2) (σ 6 9)))) (pc' := 42) (ls' := [(0, .ref 0), (1, .int a1), (2, .int a2), (3, .int a3)]) (st' := [.int 1, .ref 0]) (ps := [a3 = 0]) rfl ⟨c1, trivial⟩ ?_
    refine hV.pick [0] (ls' := [(0, .ref 0)]) rfl ?_
    exact p_X1_ask_J42 hV n res hP (sC (sC σ 0 (am_u (am_u (σ 0) 8 0) 9 0)) 12 (jput 120 (σ 12) ((a1 * 3) + a2) (σ 6 9))) 1 h
  · rw [if_neg c1] at h
    refine hV.run 11 [0] (ws' := wX1 (sC (sC σ 0 (am_u (am_u (σ 0) 8 0) 9 0)) 12 (jput 120 (σ 12) ((a1 * 3) + a2) (σ 6 9)))) (pc' := 42) (ls' := [(0, .ref 0), (1, .int a1), (2, .int a2), (3, .int a3)]) (st' := [.int 0, .ref 0]) (ps := [¬ a3 = 0]) rfl ⟨c1, trivial⟩ ?_
    refine hV.pick [0] (ls' := [(0, .ref 0)]) rfl ?_
    exact p_X1_ask_J42 hV n res hP (sC (sC σ 0 (am_u (am_u (σ 0) 8 0) 9 0)) 12 (jput 120 (σ 12) ((a1 * 3) + a2) (σ 6 9))) 0 h

def X1_openIf (n : Nat) (σ : am_M) (a1 : Int32) : Option am_M := (X1_ask n (sC (sC (sC σ 0 (am_u (σ 0) 6 ((σ 0 6) + 1))) 14 (jput 4 (σ 14) (σ 0 6) a1)) 15 (jput 4 (σ 15) (σ 0 6) (-1))) a1 2 1).bind (fun q1 => (X1_need q1 23).bind (fun q2 => some q2))
set_option maxRecDepth 100000 in
set_option maxHeartbeats 4000000 in
theorem c_X1_openIf (l : Launch) (n : Nat) (σ : am_M) (a1 : Int32) (res : am_M) (h : X1_openIf n σ a1 = some res) : am_Con l yX1_openIf cX1_openIf 2 none 5 [.ref 0, .int a1] (wX1 σ) (fun (r : Option Value) (w : am_W) => r = none ∧ w = (wX1 res)) := by
  refine am_metn (n0 := 17) (own := RX1) (cd := am_cdT' tX1_openIf) (rf := am_rfL rfX1) (ini := false) rfl (by decide +kernel) rfl (by decide) dX1_openIf rfX1_ok (Nat.le_of_ble_eq_true rfl) ?_
  intro V hV
  have hP : (fun (r : Option Value) (w : am_W) => r = none ∧ w = (wX1 res)) none (wX1 res) := ⟨rfl, rfl⟩
  show V (wX1 σ) 0 [(0, .ref 0), (1, .int a1)] []
  unfold X1_openIf at h
  refine hV.run 5 [] (ws' := wX1 σ) (pc' := 9) (ls' := [(0, .ref 0), (1, .int a1)]) (st' := [.int a1, .int (σ 0 6), .ref 14]) (ps := []) rfl trivial ?_
  refine hV.cSv (as := [.ref 0, .int (σ 0 6), .int a1]) (js := [14]) (rest := []) (st := [.int a1, .int (σ 0 6), .ref 14]) (ws2 := wX1 (sC σ 14 (jput 4 (σ 14) (σ 0 6) a1))) (pc2 := 12) kX1_104 (c_put l 1 4 (by decide) (σ 14) (σ 0 6) a1) rfl rfl rfl rfl rfl rfl rfl rfl rfl rfl ?_
  refine hV.run 5 [] (ws' := wX1 (sC σ 14 (jput 4 (σ 14) (σ 0 6) a1))) (pc' := 21) (ls' := [(0, .ref 0), (1, .int a1)]) (st' := [.int (-1), .int (σ 0 6), .ref 15]) (ps := []) rfl trivial ?_
  refine hV.cSv (as := [.ref 0, .int (σ 0 6), .int (-1)]) (js := [15]) (rest := []) (st := [.int (-1), .int (σ 0 6), .ref 15]) (ws2 := wX1 (sC (sC σ 14 (jput 4 (σ 14) (σ 0 6) a1)) 15 (jput 4 (σ 15) (σ 0 6) (-1)))) (pc2 := 24) kX1_104 (c_put l 1 4 (by decide) (σ 15) (σ 0 6) (-1)) rfl rfl rfl rfl rfl rfl rfl rfl rfl rfl ?_
  refine hV.run 10 [] (ws' := wX1 (sC (sC (sC σ 0 (am_u (σ 0) 6 ((σ 0 6) + 1))) 14 (jput 4 (σ 14) (σ 0 6) a1)) 15 (jput 4 (σ 15) (σ 0 6) (-1)))) (pc' := 38) (ls' := [(0, .ref 0), (1, .int a1)]) (st' := [.int 1, .int 2, .int a1, .ref 0]) (ps := []) rfl trivial ?_
  obtain ⟨q1, hq1, h⟩ := am_bind h
  refine hV.cOv (as := [.int a1, .int 2, .int 1]) (rest := []) (st := [.int 1, .int 2, .int a1, .ref 0]) (ws2 := wX1 q1) (pc2 := 41) kX1_108 (c_X1_ask l n (sC (sC (sC σ 0 (am_u (σ 0) 6 ((σ 0 6) + 1))) 14 (jput 4 (σ 14) (σ 0 6) a1)) 15 (jput 4 (σ 15) (σ 0 6) (-1))) a1 2 1 q1 hq1) rfl rfl rfl rfl rfl rfl rfl rfl rfl ?_
  refine hV.run 2 [] (ws' := wX1 q1) (pc' := 44) (ls' := [(0, .ref 0), (1, .int a1)]) (st' := [.int 23, .ref 0]) (ps := []) rfl trivial ?_
  obtain ⟨q2, hq2, h⟩ := am_bind h
  refine hV.cOv (as := [.int 23]) (rest := []) (st := [.int 23, .ref 0]) (ws2 := wX1 q2) (pc2 := 47) kX1_101 (c_X1_need l q1 23 q2 hq2) rfl rfl rfl rfl rfl rfl rfl rfl rfl ?_
  cases h
  exact hV.rv rfl rfl rfl hP

def X1_turnIf_J24 (σ : am_M) : Option am_M := (X1_refuse σ 1).bind (fun q1 => some q1)
set_option maxRecDepth 100000 in
set_option maxHeartbeats 4000000 in
theorem p_X1_turnIf_J24 {l : Launch} {Post : Option Value → am_W → Prop} {V : am_VT} (hV : am_B l RX1 false 3 (am_cdT' tX1_turnIf) (am_rfL rfX1) none Post 17 V) (res : am_M) (hP : Post none (wX1 res)) (σ : am_M) (h : X1_turnIf_J24 σ = some res) : V (wX1 σ) 24 [(0, .ref 0)] [] := by
  unfold X1_turnIf_J24 at h
  refine hV.run 2 [] (ws' := wX1 σ) (pc' := 26) (ls' := [(0, .ref 0)]) (st' := [.int 1, .ref 0]) (ps := []) rfl trivial ?_
  obtain ⟨q1, hq1, h⟩ := am_bind h
  refine hV.cOv (as := [.int 1]) (rest := []) (st := [.int 1, .ref 0]) (ws2 := wX1 q1) (pc2 := 29) kX1_65 (c_X1_refuse l σ 1 q1 hq1) rfl rfl rfl rfl rfl rfl rfl rfl rfl ?_
  cases h
  exact hV.rv rfl rfl rfl hP
def X1_turnIf (σ : am_M) : Option am_M := if (σ 0 6) = 0 then (X1_turnIf_J24 σ) else (if (jat 4 (σ 15) ((σ 0 6) - 1)) = (-1) then (X5_advance (am_sub (sC σ 15 (jput 4 (σ 15) ((σ 0 6) - 1) (σ 6 7))) 1)).bind (fun q3 => some (am_put (sC σ 15 (jput 4 (σ 15) ((σ 0 6) - 1) (σ 6 7))) 1 5 q3)) else (X1_turnIf_J24 σ))
set_option maxRecDepth 100000 in
set_option maxHeartbeats 4000000 in
theorem c_X1_turnIf (l : Launch) (σ : am_M) (res : am_M) (h : X1_turnIf σ = some res) : am_Con l yX1_turnIf cX1_turnIf 1 none 3 [.ref 0] (wX1 σ) (fun (r : Option Value) (w : am_W) => r = none ∧ w = (wX1 res)) := by
  refine am_metn (n0 := 17) (own := RX1) (cd := am_cdT' tX1_turnIf) (rf := am_rfL rfX1) (ini := false) rfl (by decide +kernel) rfl (by decide) dX1_turnIf rfX1_ok (Nat.le_of_ble_eq_true rfl) ?_
  intro V hV
  have hP : (fun (r : Option Value) (w : am_W) => r = none ∧ w = (wX1 res)) none (wX1 res) := ⟨rfl, rfl⟩
  show V (wX1 σ) 0 [(0, .ref 0)] []
  unfold X1_turnIf at h
  by_cases c1 : (σ 0 6) = 0
  · rw [if_pos c1] at h
    refine hV.run 3 [1] (ws' := wX1 σ) (pc' := 24) (ls' := [(0, .ref 0)]) (st' := []) (ps := [(σ 0 6) = 0]) rfl ⟨c1, trivial⟩ ?_
    exact p_X1_turnIf_J24 hV res hP σ h
  · rw [if_neg c1] at h
    refine hV.run 9 [0] (ws' := wX1 σ) (pc' := 17) (ls' := [(0, .ref 0)]) (st' := [.int ((σ 0 6) - 1), .ref 15]) (ps := [¬ (σ 0 6) = 0]) rfl ⟨c1, trivial⟩ ?_
    refine hV.cSi (as := [.ref 0, .int ((σ 0 6) - 1)]) (js := [15]) (rest := []) (st := [.int ((σ 0 6) - 1), .ref 15]) (ws2 := wX1 σ) (pc2 := 20) kX1_74 (c_at l 1 4 (by decide) (σ 15) ((σ 0 6) - 1)) rfl rfl rfl rfl rfl rfl rfl rfl rfl rfl ?_
    by_cases c2 : (jat 4 (σ 15) ((σ 0 6) - 1)) = (-1)
    · rw [if_pos c2] at h
      refine hV.run 11 [1] (ws' := wX1 σ) (pc' := 47) (ls' := [(0, .ref 0)]) (st' := [.int (σ 6 7), .int ((σ 0 6) - 1), .ref 15]) (ps := [(jat 4 (σ 15) ((σ 0 6) - 1)) = (-1)]) rfl ⟨c2, trivial⟩ ?_
      refine hV.cSv (as := [.ref 0, .int ((σ 0 6) - 1), .int (σ 6 7)]) (js := [15]) (rest := []) (st := [.int (σ 6 7), .int ((σ 0 6) - 1), .ref 15]) (ws2 := wX1 (sC σ 15 (jput 4 (σ 15) ((σ 0 6) - 1) (σ 6 7)))) (pc2 := 50) kX1_104 (c_put l 1 4 (by decide) (σ 15) ((σ 0 6) - 1) (σ 6 7)) rfl rfl rfl rfl rfl rfl rfl rfl rfl rfl ?_
      refine hV.run 2 [] (ws' := wX1 (sC σ 15 (jput 4 (σ 15) ((σ 0 6) - 1) (σ 6 7)))) (pc' := 54) (ls' := [(0, .ref 0)]) (st' := [.ref 1]) (ps := []) rfl trivial ?_
      obtain ⟨q3, hq3, h⟩ := am_bind h
      refine hV.cBv 1 5 [] (as := []) (rest := []) (st := [.ref 1]) (ws2 := wX1 (am_put (sC σ 15 (jput 4 (σ 15) ((σ 0 6) - 1) (σ 6 7))) 1 5 q3)) (pc2 := 57) kX1_78 (c_X5_advance l (am_sub (sC σ 15 (jput 4 (σ 15) ((σ 0 6) - 1) (σ 6 7))) 1) q3 hq3) rfl rfl rfl rfl rfl rfl rfl rfl rfl rfl rfl rfl rfl rfl ?_
      cases h
      exact hV.rv rfl rfl rfl hP
    · rw [if_neg c2] at h
      refine hV.run 2 [0] (ws' := wX1 σ) (pc' := 24) (ls' := [(0, .ref 0)]) (st' := []) (ps := [¬ (jat 4 (σ 15) ((σ 0 6) - 1)) = (-1)]) rfl ⟨c2, trivial⟩ ?_
      exact p_X1_turnIf_J24 hV res hP σ h

