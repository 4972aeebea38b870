def X2_join (a1 : Int32) (a2 : Int32) (a3 : Int32) : Int32 := if a1 = (-14) then (if a3 ≤ a2 then (0) else (1)) else (if a1 = (-13) then (if a3 = 0 then (0) else (a2 / a3)) else (if a1 = (-12) then (a2 * a3) else (if a1 = (-11) then (a2 - a3) else (if a1 = (-10) then (a2 + a3) else (if a2 = a3 then (1) else (0))))))
set_option maxRecDepth 100000 in
set_option maxHeartbeats 4000000 in
theorem c_X2_join (l : Launch) (a1 : Int32) (a2 : Int32) (a3 : Int32) : am_Con l yX2_join cX2_join 3 (some .int) 1 [.int a1, .int a2, .int a3] [] (fun (r : Option Value) (w : am_W) => r = (some (.int (X2_join a1 a2 a3))) ∧ w = []) := by
  obtain ⟨res, h⟩ : ∃ res, (X2_join a1 a2 a3) = res := ⟨_, rfl⟩
  rw [h]
  refine am_metn (n0 := 0) (own := RX2) (cd := am_cdT' tX2_join) (rf := am_rfL rfX2) (ini := false) rfl (by decide +kernel) rfl (by decide) dX2_join rfX2_ok (Nat.le_of_ble_eq_true rfl) ?_
  intro V hV
  have hP : (fun (r : Option Value) (w : am_W) => r = (some (.int res)) ∧ w = []) (some (.int res)) [] := ⟨rfl, rfl⟩
  show V [] 0 [(0, .int a1), (1, .int a2), (2, .int a3)] []
  unfold X2_join at h
  by_cases c1 : a1 = (-14)
  · rw [if_pos c1] at h
    by_cases c2 : a3 ≤ a2
    · rw [if_pos c2] at h
      refine hV.run 6 [1, 1] (ws' := []) (pc' := 70) (ls' := [(0, .int a1), (1, .int a2), (2, .int a3)]) (st' := [.int 0]) (ps := [a1.toInt = (-14) + ((0 : Nat) : Int), 0 < 5, ¬ (-10) < a1.toInt, a3 ≤ a2]) rfl ⟨(by rw [c1]; decide), (by decide), (by rw [c1]; decide), c2, trivial⟩ ?_
      subst h
      exact hV.ri rfl rfl rfl hP
    · rw [if_neg c2] at h
      refine hV.run 7 [1, 0] (ws' := []) (pc' := 70) (ls' := [(0, .int a1), (1, .int a2), (2, .int a3)]) (st' := [.int 1]) (ps := [a1.toInt = (-14) + ((0 : Nat) : Int), 0 < 5, ¬ (-10) < a1.toInt, ¬ a3 ≤ a2]) rfl ⟨(by rw [c1]; decide), (by decide), (by rw [c1]; decide), c2, trivial⟩ ?_
      subst h
      exact hV.ri rfl rfl rfl hP
  · rw [if_neg c1] at h
    by_cases c3 : a1 = (-13)
    · rw [if_pos c3] at h
      by_cases c4 : a3 = 0
      · rw [if_pos c4] at h
        refine hV.run 6 [2, 0] (ws' := []) (pc' := 59) (ls' := [(0, .int a1), (1, .int a2), (2, .int a3)]) (st' := [.int 0]) (ps := [a1.toInt = (-14) + ((1 : Nat) : Int), 1 < 5, ¬ (-10) < a1.toInt, a3 = 0]) rfl ⟨(by rw [c3]; decide), (by decide), (by rw [c3]; decide), c4, trivial⟩ ?_
        subst h
        exact hV.ri rfl rfl rfl hP
      · rw [if_neg c4] at h
        refine hV.run 7 [2, 1] (ws' := []) (pc' := 59) (ls' := [(0, .int a1), (1, .int a2), (2, .int a3)]) (st' := [.int (a2 / a3)]) (ps := [a1.toInt = (-14) + ((1 : Nat) : Int), 1 < 5, ¬ (-10) < a1.toInt, ¬ a3 = 0, ¬ a3 = 0]) rfl ⟨(by rw [c3]; decide), (by decide), (by rw [c3]; decide), c4, c4, trivial⟩ ?_
        subst h
        exact hV.ri rfl rfl rfl hP
    · rw [if_neg c3] at h
      by_cases c5 : a1 = (-12)
      · rw [if_pos c5] at h
        refine hV.run 5 [3] (ws' := []) (pc' := 47) (ls' := [(0, .int a1), (1, .int a2), (2, .int a3)]) (st' := [.int (a2 * a3)]) (ps := [a1.toInt = (-14) + ((2 : Nat) : Int), 2 < 5, ¬ (-10) < a1.toInt]) rfl ⟨(by rw [c5]; decide), (by decide), (by rw [c5]; decide), trivial⟩ ?_
        subst h
        exact hV.ri rfl rfl rfl hP
      · rw [if_neg c5] at h
        by_cases c6 : a1 = (-11)
        · rw [if_pos c6] at h
          refine hV.run 5 [4] (ws' := []) (pc' := 43) (ls' := [(0, .int a1), (1, .int a2), (2, .int a3)]) (st' := [.int (a2 - a3)]) (ps := [a1.toInt = (-14) + ((3 : Nat) : Int), 3 < 5, ¬ (-10) < a1.toInt]) rfl ⟨(by rw [c6]; decide), (by decide), (by rw [c6]; decide), trivial⟩ ?_
          subst h
          exact hV.ri rfl rfl rfl hP
        · rw [if_neg c6] at h
          by_cases c7 : a1 = (-10)
          · rw [if_pos c7] at h
            refine hV.run 5 [5] (ws' := []) (pc' := 39) (ls' := [(0, .int a1), (1, .int a2), (2, .int a3)]) (st' := [.int (a2 + a3)]) (ps := [a1.toInt = (-14) + ((4 : Nat) : Int), 4 < 5, ¬ (-10) < a1.toInt]) rfl ⟨(by rw [c7]; decide), (by decide), (by rw [c7]; decide), trivial⟩ ?_
            subst h
            exact hV.ri rfl rfl rfl hP
          · rw [if_neg c7] at h
            by_cases c8 : a2 = a3
            · rw [if_pos c8] at h
              refine hV.run 7 [0, 0] (ws' := []) (pc' := 81) (ls' := [(0, .int a1), (1, .int a2), (2, .int a3)]) (st' := [.int 1]) (ps := [a1.toInt < (-14) ∨ (-10) < a1.toInt, a2 = a3]) rfl ⟨(by have c1_ := am_ne c1 (by decide : ((-14) : Int32).toInt = (-14)); have c3_ := am_ne c3 (by decide : ((-13) : Int32).toInt = (-13)); have c5_ := am_ne c5 (by decide : ((-12) : Int32).toInt = (-12)); have c6_ := am_ne c6 (by decide : ((-11) : Int32).toInt = (-11)); have c7_ := am_ne c7 (by decide : ((-10) : Int32).toInt = (-10)); omega), c8, trivial⟩ ?_
              subst h
              exact hV.ri rfl rfl rfl hP
            · rw [if_neg c8] at h
              refine hV.run 6 [0, 1] (ws' := []) (pc' := 81) (ls' := [(0, .int a1), (1, .int a2), (2, .int a3)]) (st' := [.int 0]) (ps := [a1.toInt < (-14) ∨ (-10) < a1.toInt, ¬ a2 = a3]) rfl ⟨(by have c1_ := am_ne c1 (by decide : ((-14) : Int32).toInt = (-14)); have c3_ := am_ne c3 (by decide : ((-13) : Int32).toInt = (-13)); have c5_ := am_ne c5 (by decide : ((-12) : Int32).toInt = (-12)); have c6_ := am_ne c6 (by decide : ((-11) : Int32).toInt = (-11)); have c7_ := am_ne c7 (by decide : ((-10) : Int32).toInt = (-10)); omega), c8, trivial⟩ ?_
              subst h
              exact hV.ri rfl rfl rfl hP

def X2_ask_J192 (n : Nat) (σ : am_M) : Option (Int32 × am_M) := some ((jat 40 (σ 7) 0), σ)
set_option maxRecDepth 100000 in
set_option maxHeartbeats 4000000 in
theorem p_X2_ask_J192 {l : Launch} {Post : Option Value → am_W → Prop} {V : am_VT} (hV : am_B l RX2 false 2 (am_cdT' tX2_ask) (am_rfL rfX2) (some .int) Post 19 V) (n : Nat) (τ : Nat → Int64) (res : (Int32 × am_M)) (hP : Post (some (.int res.1)) (wX2 11 res.2 τ)) (σ : am_M) (h : X2_ask_J192 n σ = some res) : V (wX2 11 σ τ) 192 [(0, .ref 0)] [] := by
  unfold X2_ask_J192 at h
  refine hV.run 3 [] (ws' := wX2 11 σ τ) (pc' := 197) (ls' := [(0, .ref 0)]) (st' := [.int 0, .ref 7]) (ps := []) rfl trivial ?_
  refine hV.cSi (as := [.ref 0, .int 0]) (js := [7]) (rest := []) (st := [.int 0, .ref 7]) (ws2 := wX2 11 σ τ) (pc2 := 200) kX2_110 (c_at l 1 40 (by decide) (σ 7) 0) rfl rfl rfl rfl rfl rfl rfl rfl rfl rfl ?_
  cases h
  exact hV.ri rfl rfl rfl hP
def X2_ask_J186 (n : Nat) (kont63 : am_M → Int32 → Int32 → Int32 → Option (Int32 × am_M)) (σ : am_M) (l1 : Int32) (l6 : Int32) (l7 : Int32) : Option (Int32 × am_M) := kont63 σ l1 l6 (l7 + 1)
set_option maxRecDepth 100000 in
set_option maxHeartbeats 4000000 in
theorem p_X2_ask_J186 {l : Launch} {Post : Option Value → am_W → Prop} {V : am_VT} (hV : am_B l RX2 false 2 (am_cdT' tX2_ask) (am_rfL rfX2) (some .int) Post 19 V) (n : Nat) (τ : Nat → Int64) (res : (Int32 × am_M)) (hP : Post (some (.int res.1)) (wX2 11 res.2 τ)) (kont63 : am_M → Int32 → Int32 → Int32 → Option (Int32 × am_M)) (hk63 : ∀ (σ : am_M) (l1 : Int32) (l6 : Int32) (l7 : Int32), kont63 σ l1 l6 l7 = some res → V (wX2 11 σ τ) 63 [(0, .ref 0), (1, .int l1), (6, .int l6), (7, .int l7)] []) (σ : am_M) (l1 : Int32) (l6 : Int32) (l7 : Int32) (h : X2_ask_J186 n kont63 σ l1 l6 l7 = some res) : V (wX2 11 σ τ) 186 [(0, .ref 0), (1, .int l1), (6, .int l6), (7, .int l7)] [] := by
  unfold X2_ask_J186 at h
  refine hV.run 2 [] (ws' := wX2 11 σ τ) (pc' := 63) (ls' := [(7, .int (l7 + 1)), (0, .ref 0), (1, .int l1), (6, .int l6)]) (st' := []) (ps := []) rfl trivial ?_
  refine hV.pick [1, 2, 3, 0] (ls' := [(0, .ref 0), (1, .int l1), (6, .int l6), (7, .int (l7 + 1))]) rfl ?_
  exact hk63 σ l1 l6 (l7 + 1) h
def X2_ask_J180 (n : Nat) (kont63 : am_M → Int32 → Int32 → Int32 → Option (Int32 × am_M)) (σ : am_M) (l1 : Int32) (l6 : Int32) (l7 : Int32) (s0 : Int32) (s1 : Int32) : Option (Int32 × am_M) := X2_ask_J186 n kont63 (sC σ 7 (jput 40 (σ 7) s1 s0)) l1 (l6 + 1) l7
set_option maxRecDepth 100000 in
set_option maxHeartbeats 4000000 in
theorem p_X2_ask_J180 {l : Launch} {Post : Option Value → am_W → Prop} {V : am_VT} (hV : am_B l RX2 false 2 (am_cdT' tX2_ask) (am_rfL rfX2) (some .int) Post 19 V) (n : Nat) (τ : Nat → Int64) (res : (Int32 × am_M)) (hP : Post (some (.int res.1)) (wX2 11 res.2 τ)) (kont63 : am_M → Int32 → Int32 → Int32 → Option (Int32 × am_M)) (hk63 : ∀ (σ : am_M) (l1 : Int32) (l6 : Int32) (l7 : Int32), kont63 σ l1 l6 l7 = some res → V (wX2 11 σ τ) 63 [(0, .ref 0), (1, .int l1), (6, .int l6), (7, .int l7)] []) (σ : am_M) (l1 : Int32) (l6 : Int32) (l7 : Int32) (s0 : Int32) (s1 : Int32) (h : X2_ask_J180 n kont63 σ l1 l6 l7 s0 s1 = some res) : V (wX2 11 σ τ) 180 [(0, .ref 0), (1, .int l1), (6, .int l6), (7, .int l7)] [.int s0, .int s1, .ref 7] := by
  unfold X2_ask_J180 at h
  refine hV.cSv (as := [.ref 0, .int s1, .int s0]) (js := [7]) (rest := []) (st := [.int s0, .int s1, .ref 7]) (ws2 := wX2 11 (sC σ 7 (jput 40 (σ 7) s1 s0)) τ) (pc2 := 183) kX2_138 (c_put l 1 40 (by decide) (σ 7) s1 s0) rfl rfl rfl rfl rfl rfl rfl rfl rfl rfl ?_
  refine hV.run 1 [] (ws' := wX2 11 (sC σ 7 (jput 40 (σ 7) s1 s0)) τ) (pc' := 186) (ls' := [(6, .int (l6 + 1)), (0, .ref 0), (1, .int l1), (7, .int l7)]) (st' := []) (ps := []) rfl trivial ?_
  refine hV.pick [1, 2, 0, 3] (ls' := [(0, .ref 0), (1, .int l1), (6, .int (l6 + 1)), (7, .int l7)]) rfl ?_
  exact p_X2_ask_J186 hV n τ res hP kont63 hk63 (sC σ 7 (jput 40 (σ 7) s1 s0)) l1 (l6 + 1) l7 h
def X2_ask_B63 (n : Nat) (kont63 : am_M → Int32 → Int32 → Int32 → Option (Int32 × am_M)) (σ : am_M) (l1 : Int32) (l6 : Int32) (l7 : Int32) : Option (Int32 × am_M) := if (σ 11 9) ≤ l7 then (X2_ask_J192 n σ) else (if (jat 900 (σ 18) l7) = (-20) then (X2_ask_J192 n σ) else (if (-7) ≤ (jat 900 (σ 18) l7) then (if (jat 900 (σ 18) l7) < 0 then (X2_ask_J180 n kont63 σ l1 l6 l7 (X2_get σ l1 (1 - (jat 900 (σ 18) l7))) l6) else (X2_ask_J180 n kont63 σ l1 l6 l7 (jat 900 (σ 18) l7) l6)) else (X2_ask_J186 n kont63 (sC σ 7 (jput 40 (σ 7) ((l6 + (-1)) - 1) (X2_join (jat 900 (σ 18) l7) (jat 40 (σ 7) ((l6 + (-1)) - 1)) (jat 40 (σ 7) (l6 + (-1)))))) l1 (l6 + (-1)) l7)))
def X2_ask_L63 (n : Nat) : Nat → am_M → Int32 → Int32 → Int32 → Option (Int32 × am_M)
 | 0 => fun _ _ _ _ => none
 | k + 1 => fun σ l1 l6 l7 => X2_ask_B63 n (X2_ask_L63 n k) σ l1 l6 l7
set_option maxRecDepth 100000 in
set_option maxHeartbeats 4000000 in
theorem p_X2_ask_B63 {l : Launch} {Post : Option Value → am_W → Prop} {V : am_VT} (hV : am_B l RX2 false 2 (am_cdT' tX2_ask) (am_rfL rfX2) (some .int) Post 19 V) (n : Nat) (τ : Nat → Int64) (res : (Int32 × am_M)) (hP : Post (some (.int res.1)) (wX2 11 res.2 τ)) (kont63 : am_M → Int32 → Int32 → Int32 → Option (Int32 × am_M)) (hk63 : ∀ (σ : am_M) (l1 : Int32) (l6 : Int32) (l7 : Int32), kont63 σ l1 l6 l7 = some res → V (wX2 11 σ τ) 63 [(0, .ref 0), (1, .int l1), (6, .int l6), (7, .int l7)] []) (σ : am_M) (l1 : Int32) (l6 : Int32) (l7 : Int32) (h : X2_ask_B63 n kont63 σ l1 l6 l7 = some res) : V (wX2 11 σ τ) 63 [(0, .ref 0), (1, .int l1), (6, .int l6), (7, .int l7)] [] := by
  unfold X2_ask_B63 at h
  by_cases c1 : (σ 11 9) ≤ l7
  · rw [if_pos c1] at h
    refine hV.run 5 [1] (ws' := wX2 11 σ τ) (pc' := 192) (ls' := [(0, .ref 0), (1, .int l1), (6, .int l6), (7, .int l7)]) (st' := []) (ps := [(σ 11 9) ≤ l7]) rfl ⟨c1, trivial⟩ ?_
    refine hV.pick [0] (ls' := [(0, .ref 0)]) rfl ?_
    exact p_X2_ask_J192 hV n τ res hP σ h
  · rw [if_neg c1] at h
    refine hV.run 9 [0] (ws' := wX2 11 σ τ) (pc' := 84) (ls' := [(0, .ref 0), (1, .int l1), (6, .int l6), (7, .int l7)]) (st' := [.int l7, .ref 18]) (ps := [¬ (σ 11 9) ≤ l7]) rfl ⟨c1, trivial⟩ ?_
    refine hV.cSi (as := [.ref 0, .int l7]) (js := [18]) (rest := []) (st := [.int l7, .ref 18]) (ws2 := wX2 11 σ τ) (pc2 := 87) kX2_110 (c_at l 1 900 (by decide) (σ 18) l7) rfl rfl rfl rfl rfl rfl rfl rfl rfl rfl ?_
    by_cases c2 : (jat 900 (σ 18) l7) = (-20)
    · rw [if_pos c2] at h
      refine hV.run 2 [1] (ws' := wX2 11 σ τ) (pc' := 192) (ls' := [(0, .ref 0), (1, .int l1), (6, .int l6), (7, .int l7)]) (st' := []) (ps := [(jat 900 (σ 18) l7) = (-20)]) rfl ⟨c2, trivial⟩ ?_
      refine hV.pick [0] (ls' := [(0, .ref 0)]) rfl ?_
      exact p_X2_ask_J192 hV n τ res hP σ h
    · rw [if_neg c2] at h
      refine hV.run 6 [0] (ws' := wX2 11 σ τ) (pc' := 101) (ls' := [(0, .ref 0), (1, .int l1), (6, .int l6), (7, .int l7)]) (st' := [.int l7, .ref 18]) (ps := [¬ (jat 900 (σ 18) l7) = (-20)]) rfl ⟨c2, trivial⟩ ?_
      refine hV.cSi (as := [.ref 0, .int l7]) (js := [18]) (rest := []) (st := [.int l7, .ref 18]) (ws2 := wX2 11 σ τ) (pc2 := 104) kX2_110 (c_at l 1 900 (by decide) (σ 18) l7) rfl rfl rfl rfl rfl rfl rfl rfl rfl rfl ?_
      by_cases c3 : (-7) ≤ (jat 900 (σ 18) l7)
      · rw [if_pos c3] at h
        by_cases c4 : (jat 900 (σ 18) l7) < 0
        · rw [if_pos c4] at h
          refine hV.run 14 [1, 1] (ws' := wX2 11 σ τ) (pc' := 177) (ls' := [(8, .int (jat 900 (σ 18) l7)), (0, .ref 0), (1, .int l1), (6, .int l6), (7, .int l7)]) (st' := [.int (1 - (jat 900 (σ 18) l7)), .int l1, .ref 0, .int l6, .ref 7]) (ps := [(-7) ≤ (jat 900 (σ 18) l7), (jat 900 (σ 18) l7) < 0]) rfl ⟨c3, c4, trivial⟩ ?_
          refine hV.cOi (as := [.int l1, .int (1 - (jat 900 (σ 18) l7))]) (rest := [.int l6, .ref 7]) (st := [.int (1 - (jat 900 (σ 18) l7)), .int l1, .ref 0, .int l6, .ref 7]) (ws2 := wX2 11 σ τ) (pc2 := 180) kX2_81 (c_X2_get l σ τ l1 (1 - (jat 900 (σ 18) l7))) rfl rfl rfl rfl rfl rfl rfl rfl rfl ?_
          refine hV.pick [1, 2, 3, 4] (ls' := [(0, .ref 0), (1, .int l1), (6, .int l6), (7, .int l7)]) rfl ?_
          exact p_X2_ask_J180 hV n τ res hP kont63 hk63 σ l1 l6 l7 (X2_get σ l1 (1 - (jat 900 (σ 18) l7))) l6 h
        · rw [if_neg c4] at h
          refine hV.run 11 [1, 0] (ws' := wX2 11 σ τ) (pc' := 180) (ls' := [(8, .int (jat 900 (σ 18) l7)), (0, .ref 0), (1, .int l1), (6, .int l6), (7, .int l7)]) (st' := [.int (jat 900 (σ 18) l7), .int l6, .ref 7]) (ps := [(-7) ≤ (jat 900 (σ 18) l7), ¬ (jat 900 (σ 18) l7) < 0]) rfl ⟨c3, c4, trivial⟩ ?_
          refine hV.pick [1, 2, 3, 4] (ls' := [(0, .ref 0), (1, .int l1), (6, .int l6), (7, .int l7)]) rfl ?_
          exact p_X2_ask_J180 hV n τ res hP kont63 hk63 σ l1 l6 l7 (jat 900 (σ 18) l7) l6 h
      · rw [if_neg c3] at h
        refine hV.run 16 [0] (ws' := wX2 11 σ τ) (pc' := 134) (ls' := [(6, .int (l6 + (-1))), (8, .int (jat 900 (σ 18) l7)), (0, .ref 0), (1, .int l1), (7, .int l7)]) (st' := [.int ((l6 + (-1)) - 1), .ref 7, .int (jat 900 (σ 18) l7), .int ((l6 + (-1)) - 1), .ref 7]) (ps := [¬ (-7) ≤ (jat 900 (σ 18) l7)]) rfl ⟨c3, trivial⟩ ?_
        refine hV.cSi (as := [.ref 0, .int ((l6 + (-1)) - 1)]) (js := [7]) (rest := [.int (jat 900 (σ 18) l7), .int ((l6 + (-1)) - 1), .ref 7]) (st := [.int ((l6 + (-1)) - 1), .ref 7, .int (jat 900 (σ 18) l7), .int ((l6 + (-1)) - 1), .ref 7]) (ws2 := wX2 11 σ τ) (pc2 := 137) kX2_110 (c_at l 1 40 (by decide) (σ 7) ((l6 + (-1)) - 1)) rfl rfl rfl rfl rfl rfl rfl rfl rfl rfl ?_
        refine hV.run 3 [] (ws' := wX2 11 σ τ) (pc' := 143) (ls' := [(6, .int (l6 + (-1))), (8, .int (jat 900 (σ 18) l7)), (0, .ref 0), (1, .int l1), (7, .int l7)]) (st' := [.int (l6 + (-1)), .ref 7, .int (jat 40 (σ 7) ((l6 + (-1)) - 1)), .int (jat 900 (σ 18) l7), .int ((l6 + (-1)) - 1), .ref 7]) (ps := []) rfl trivial ?_
        refine hV.cSi (as := [.ref 0, .int (l6 + (-1))]) (js := [7]) (rest := [.int (jat 40 (σ 7) ((l6 + (-1)) - 1)), .int (jat 900 (σ 18) l7), .int ((l6 + (-1)) - 1), .ref 7]) (st := [.int (l6 + (-1)), .ref 7, .int (jat 40 (σ 7) ((l6 + (-1)) - 1)), .int (jat 900 (σ 18) l7), .int ((l6 + (-1)) - 1), .ref 7]) (ws2 := wX2 11 σ τ) (pc2 := 146) kX2_110 (c_at l 1 40 (by decide) (σ 7) (l6 + (-1))) rfl rfl rfl rfl rfl rfl rfl rfl rfl rfl ?_
        refine hV.cSi (as := [.int (jat 900 (σ 18) l7), .int (jat 40 (σ 7) ((l6 + (-1)) - 1)), .int (jat 40 (σ 7) (l6 + (-1)))]) (js := []) (rest := [.int ((l6 + (-1)) - 1), .ref 7]) (st := [.int (jat 40 (σ 7) (l6 + (-1))), .int (jat 40 (σ 7) ((l6 + (-1)) - 1)), .int (jat 900 (σ 18) l7), .int ((l6 + (-1)) - 1), .ref 7]) (ws2 := wX2 11 σ τ) (pc2 := 149) kX2_135 (c_X2_join l (jat 900 (σ 18) l7) (jat 40 (σ 7) ((l6 + (-1)) - 1)) (jat 40 (σ 7) (l6 + (-1)))) rfl rfl rfl rfl rfl rfl rfl rfl rfl rfl ?_
        refine hV.cSv (as := [.ref 0, .int ((l6 + (-1)) - 1), .int (X2_join (jat 900 (σ 18) l7) (jat 40 (σ 7) ((l6 + (-1)) - 1)) (jat 40 (σ 7) (l6 + (-1))))]) (js := [7]) (rest := []) (st := [.int (X2_join (jat 900 (σ 18) l7) (jat 40 (σ 7) ((l6 + (-1)) - 1)) (jat 40 (σ 7) (l6 + (-1)))), .int ((l6 + (-1)) - 1), .ref 7]) (ws2 := wX2 11 (sC σ 7 (jput 40 (σ 7) ((l6 + (-1)) - 1) (X2_join (jat 900 (σ 18) l7) (jat 40 (σ 7) ((l6 + (-1)) - 1)) (jat 40 (σ 7) (l6 + (-1)))))) τ) (pc2 := 152) kX2_138 (c_put l 1 40 (by decide) (σ 7) ((l6 + (-1)) - 1) (X2_join (jat 900 (σ 18) l7) (jat 40 (σ 7) ((l6 + (-1)) - 1)) (jat 40 (σ 7) (l6 + (-1))))) rfl rfl rfl rfl rfl rfl rfl rfl rfl rfl ?_
        refine hV.run 1 [] (ws' := wX2 11 (sC σ 7 (jput 40 (σ 7) ((l6 + (-1)) - 1) (X2_join (jat 900 (σ 18) l7) (jat 40 (σ 7) ((l6 + (-1)) - 1)) (jat 40 (σ 7) (l6 + (-1)))))) τ) (pc' := 186) (ls' := [(6, .int (l6 + (-1))), (8, .int (jat 900 (σ 18) l7)), (0, .ref 0), (1, .int l1), (7, .int l7)]) (st' := []) (ps := []) rfl trivial ?_
        refine hV.pick [2, 3, 0, 4] (ls' := [(0, .ref 0), (1, .int l1), (6, .int (l6 + (-1))), (7, .int l7)]) rfl ?_
        exact p_X2_ask_J186 hV n τ res hP kont63 hk63 (sC σ 7 (jput 40 (σ 7) ((l6 + (-1)) - 1) (X2_join (jat 900 (σ 18) l7) (jat 40 (σ 7) ((l6 + (-1)) - 1)) (jat 40 (σ 7) (l6 + (-1)))))) l1 (l6 + (-1)) l7 h
theorem p_X2_ask_L63 {l : Launch} {Post : Option Value → am_W → Prop} {V : am_VT} (hV : am_B l RX2 false 2 (am_cdT' tX2_ask) (am_rfL rfX2) (some .int) Post 19 V) (n : Nat) (τ : Nat → Int64) (res : (Int32 × am_M)) (hP : Post (some (.int res.1)) (wX2 11 res.2 τ)) : ∀ (k : Nat) (σ : am_M) (l1 : Int32) (l6 : Int32) (l7 : Int32) (h : X2_ask_L63 n k σ l1 l6 l7 = some res), V (wX2 11 σ τ) 63 [(0, .ref 0), (1, .int l1), (6, .int l6), (7, .int l7)] [] := by
  intro k
  induction k with
  | zero => intro σ l1 l6 l7 h; cases h
  | succ k ih => intro σ l1 l6 l7 h; exact p_X2_ask_B63 hV n τ res hP _ ih σ l1 l6 l7 h
def X2_ask_J46 (n : Nat) (σ : am_M) (l1 : Int32) (s0 : Int32) : Option (Int32 × am_M) := if s0 = (-1) then (some (0, σ)) else (X2_ask_L63 n n σ l1 0 s0)
set_option maxRecDepth 100000 in
set_option maxHeartbeats 4000000 in
theorem p_X2_ask_J46 {l : Launch} {Post : Option Value → am_W → Prop} {V : am_VT} (hV : am_B l RX2 false 2 (am_cdT' tX2_ask) (am_rfL rfX2) (some .int) Post 19 V) (n : Nat) (τ : Nat → Int64) (res : (Int32 × am_M)) (hP : Post (some (.int res.1)) (wX2 11 res.2 τ)) (σ : am_M) (l1 : Int32) (s0 : Int32) (h : X2_ask_J46 n σ l1 s0 = some res) : V (wX2 11 σ τ) 46 [(0, .ref 0), (1, .int l1)] [.int s0] := by
  unfold X2_ask_J46 at h
  by_cases c1 : s0 = (-1)
  · rw [if_pos c1] at h
    refine hV.run 5 [0] (ws' := wX2 11 σ τ) (pc' := 55) (ls' := [(5, .int s0), (0, .ref 0), (1, .int l1)]) (st' := [.int 0]) (ps := [s0 = (-1)]) rfl ⟨c1, trivial⟩ ?_
    cases h
    exact hV.ri rfl rfl rfl hP
  · rw [if_neg c1] at h
    refine hV.run 8 [1] (ws' := wX2 11 σ τ) (pc' := 63) (ls' := [(7, .int s0), (6, .int 0), (5, .int s0), (0, .ref 0), (1, .int l1)]) (st' := []) (ps := [¬ s0 = (-1)]) rfl ⟨c1, trivial⟩ ?_
    refine hV.pick [3, 4, 1, 0] (ls' := [(0, .ref 0), (1, .int l1), (6, .int 0), (7, .int s0)]) rfl ?_
    exact p_X2_ask_L63 hV n τ res hP n σ l1 0 s0 h
def X2_ask_J20 (n : Nat) (σ : am_M) (l1 : Int32) (l2 : Int32) (l3 : Int32) (s0 : Int32) : Option (Int32 × am_M) := if s0 = 0 then (X2_ask_J46 n σ l1 (-1)) else (X2_ask_J46 n σ l1 (jat 120 (σ 17) ((l2 * 3) + l3)))
set_option maxRecDepth 100000 in
set_option maxHeartbeats 4000000 in
theorem p_X2_ask_J20 {l : Launch} {Post : Option Value → am_W → Prop} {V : am_VT} (hV : am_B l RX2 false 2 (am_cdT' tX2_ask) (am_rfL rfX2) (some .int) Post 19 V) (n : Nat) (τ : Nat → Int64) (res : (Int32 × am_M)) (hP : Post (some (.int res.1)) (wX2 11 res.2 τ)) (σ : am_M) (l1 : Int32) (l2 : Int32) (l3 : Int32) (s0 : Int32) (h : X2_ask_J20 n σ l1 l2 l3 s0 = some res) : V (wX2 11 σ τ) 20 [(0, .ref 0), (1, .int l1), (2, .int l2), (3, .int l3)] [.int s0] := by
  unfold X2_ask_J20 at h
  by_cases c1 : s0 = 0
  · rw [if_pos c1] at h
    refine hV.run 4 [1] (ws' := wX2 11 σ τ) (pc' := 46) (ls' := [(4, .int s0), (0, .ref 0), (1, .int l1), (2, .int l2), (3, .int l3)]) (st' := [.int (-1)]) (ps := [s0 = 0]) rfl ⟨c1, trivial⟩ ?_
    refine hV.pick [1, 2] (ls' := [(0, .ref 0), (1, .int l1)]) rfl ?_
    exact p_X2_ask_J46 hV n τ res hP σ l1 (-1) h
  · rw [if_neg c1] at h
    refine hV.run 11 [0] (ws' := wX2 11 σ τ) (pc' := 39) (ls' := [(4, .int s0), (0, .ref 0), (1, .int l1), (2, .int l2), (3, .int l3)]) (st' := [.int ((l2 * 3) + l3), .ref 17]) (ps := [¬ s0 = 0]) rfl ⟨c1, trivial⟩ ?_
    refine hV.cSi (as := [.ref 0, .int ((l2 * 3) + l3)]) (js := [17]) (rest := []) (st := [.int ((l2 * 3) + l3), .ref 17]) (ws2 := wX2 11 σ τ) (pc2 := 42) kX2_110 (c_at l 1 120 (by decide) (σ 17) ((l2 * 3) + l3)) rfl rfl rfl rfl rfl rfl rfl rfl rfl rfl ?_
    refine hV.run 1 [] (ws' := wX2 11 σ τ) (pc' := 46) (ls' := [(4, .int s0), (0, .ref 0), (1, .int l1), (2, .int l2), (3, .int l3)]) (st' := [.int (jat 120 (σ 17) ((l2 * 3) + l3))]) (ps := []) rfl trivial ?_
    refine hV.pick [1, 2] (ls' := [(0, .ref 0), (1, .int l1)]) rfl ?_
    exact p_X2_ask_J46 hV n τ res hP σ l1 (jat 120 (σ 17) ((l2 * 3) + l3)) h
def X2_ask_J19 (n : Nat) (σ : am_M) (l1 : Int32) (l2 : Int32) (l3 : Int32) : Option (Int32 × am_M) := X2_ask_J20 n σ l1 l2 l3 0
set_option maxRecDepth 100000 in
set_option maxHeartbeats 4000000 in
theorem p_X2_ask_J19 {l : Launch} {Post : Option Value → am_W → Prop} {V : am_VT} (hV : am_B l RX2 false 2 (am_cdT' tX2_ask) (am_rfL rfX2) (some .int) Post 19 V) (n : Nat) (τ : Nat → Int64) (res : (Int32 × am_M)) (hP : Post (some (.int res.1)) (wX2 11 res.2 τ)) (σ : am_M) (l1 : Int32) (l2 : Int32) (l3 : Int32) (h : X2_ask_J19 n σ l1 l2 l3 = some res) : V (wX2 11 σ τ) 19 [(0, .ref 0), (1, .int l1), (2, .int l2), (3, .int l3)] [] := by
  unfold X2_ask_J19 at h
  refine hV.run 1 [] (ws' := wX2 11 σ τ) (pc' := 20) (ls' := [(0, .ref 0), (1, .int l1), (2, .int l2), (3, .int l3)]) (st' := [.int 0]) (ps := []) rfl trivial ?_
  exact p_X2_ask_J20 hV n τ res hP σ l1 l2 l3 0 h
def X2_ask (n : Nat) (σ : am_M) (a1 : Int32) (a2 : Int32) (a3 : Int32) : Option (Int32 × am_M) := if a2 < 0 then (X2_ask_J19 n σ a1 a2 a3) else (if (σ 11 7) ≤ a2 then (X2_ask_J19 n σ a1 a2 a3) else (X2_ask_J20 n σ a1 a2 a3 1))
set_option maxRecDepth 100000 in
set_option maxHeartbeats 4000000 in
theorem c_X2_ask (l : Launch) (n : Nat) (σ : am_M) (τ : Nat → Int64) (a1 : Int32) (a2 : Int32) (a3 : Int32) (res : (Int32 × am_M)) (h : X2_ask n σ a1 a2 a3 = some res) : am_Con l yX2_ask cX2_ask 9 (some .int) 2 [.ref 0, .int a1, .int a2, .int a3] (wX2 11 σ τ) (fun (r : Option Value) (w : am_W) => r = (some (.int res.1)) ∧ w = (wX2 11 res.2 τ)) := by
  refine am_metn (n0 := 19) (own := RX2) (cd := am_cdT' tX2_ask) (rf := am_rfL rfX2) (ini := false) rfl (by decide +kernel) rfl (by decide) dX2_ask rfX2_ok (Nat.le_of_ble_eq_true rfl) ?_
  intro V hV
  have hP : (fun (r : Option Value) (w : am_W) => r = (some (.int res.1)) ∧ w = (wX2 11 res.2 τ)) (some (.int res.1)) (wX2 11 res.2 τ) := ⟨rfl, rfl⟩
  show V (wX2 11 σ τ) 0 [(0, .ref 0), (1, .int a1), (2, .int a2), (3, .int a3)] []
  unfold X2_ask at h
  by_cases c1 : a2 < 0
  · rw [if_pos c1] at h
    refine hV.run 2 [1] (ws' := wX2 11 σ τ) (pc' := 19) (ls' := [(0, .ref 0), (1, .int a1), (2, .int a2), (3, .int a3)]) (st' := []) (ps := [a2 < 0]) rfl ⟨c1, trivial⟩ ?_
    exact p_X2_ask_J19 hV n τ res hP σ a1 a2 a3 h
  · rw [if_neg c1] at h
    by_cases c2 : (σ 11 7) ≤ a2
    · rw [if_pos c2] at h
      refine hV.run 7 [0, 1] (ws' := wX2 11 σ τ) (pc' := 19) (ls' := [(0, .ref 0), (1, .int a1), (2, .int a2), (3, .int a3)]) (st' := []) (ps := [¬ a2 < 0, (σ 11 7) ≤ a2]) rfl ⟨c1, c2, trivial⟩ ?_
      exact p_X2_ask_J19 hV n τ res hP σ a1 a2 a3 h
    · rw [if_neg c2] at h
      refine hV.run 9 [0, 0] (ws' := wX2 11 σ τ) (pc' := 20) (ls' := [(0, .ref 0), (1, .int a1), (2, .int a2), (3, .int a3)]) (st' := [.int 1]) (ps := [¬ a2 < 0, ¬ (σ 11 7) ≤ a2]) rfl ⟨c1, c2, trivial⟩ ?_
      exact p_X2_ask_J20 hV n τ res hP σ a1 a2 a3 1 h

def X2_isQuiet (σ : am_M) (τ : Nat → Int64) (a1 : Int32) : Bool := if (X3_kindOf (am_sub σ 11) a1) = (-1) then (false) else (if 8 ≤ (X3_kindOf (am_sub σ 11) a1) then (true) else (if (X2_isLeftOut σ τ a1) = true then (true) else (false)))
set_option maxRecDepth 100000 in
set_option maxHeartbeats 4000000 in
theorem c_X2_isQuiet (l : Launch) (σ : am_M) (τ : Nat → Int64) (a1 : Int32) : am_Con l yX2_isQuiet cX2_isQuiet 3 (some .boolean) 3 [.ref 0, .int a1] (wX2 11 σ τ) (fun (r : Option Value) (w : am_W) => r = (some (.int (b2i (X2_isQuiet σ τ a1)))) ∧ w = (wX2 11 σ τ)) := by
  obtain ⟨res, h⟩ : ∃ res, (X2_isQuiet σ τ a1) = res := ⟨_, rfl⟩
  rw [h]
  refine am_metn (n0 := 19) (own := RX2) (cd := am_cdT' tX2_isQuiet) (rf := am_rfL rfX2) (ini := false) rfl (by decide +kernel) rfl (by decide) dX2_isQuiet rfX2_ok (Nat.le_of_ble_eq_true rfl) ?_
  intro V hV
  have hP : (fun (r : Option Value) (w : am_W) => r = (some (.int (b2i res))) ∧ w = (wX2 11 σ τ)) (some (.int (b2i res))) (wX2 11 σ τ) := ⟨rfl, rfl⟩
  show V (wX2 11 σ τ) 0 [(0, .ref 0), (1, .int a1)] []
  unfold X2_isQuiet at h
  refine hV.run 3 [] (ws' := wX2 11 σ τ) (pc' := 5) (ls' := [(0, .ref 0), (1, .int a1)]) (st' := [.int a1, .ref 11]) (ps := []) rfl trivial ?_
  refine hV.cBi 11 8 [] (as := [.int a1]) (rest := []) (st := [.int a1, .ref 11]) (ws2 := wX2 11 σ τ) (pc2 := 8) kX2_89 (c_X3_kindOf l (am_sub σ 11) a1) rfl rfl rfl rfl rfl rfl rfl rfl rfl rfl rfl rfl rfl rfl ?_
  by_cases c1 : (X3_kindOf (am_sub σ 11) a1) = (-1)
  · rw [if_pos c1] at h
    refine hV.run 5 [1] (ws' := wX2 11 σ τ) (pc' := 33) (ls' := [(2, .int (X3_kindOf (am_sub σ 11) a1)), (0, .ref 0), (1, .int a1)]) (st' := [.int 0]) (ps := [(X3_kindOf (am_sub σ 11) a1) = (-1)]) rfl ⟨c1, trivial⟩ ?_
    subst h
    exact hV.rz rfl rfl rfl (Or.inl rfl) hP
  · rw [if_neg c1] at h
    by_cases c2 : 8 ≤ (X3_kindOf (am_sub σ 11) a1)
    · rw [if_pos c2] at h
      refine hV.run 9 [0, 1] (ws' := wX2 11 σ τ) (pc' := 33) (ls' := [(2, .int (X3_kindOf (am_sub σ 11) a1)), (0, .ref 0), (1, .int a1)]) (st' := [.int 1]) (ps := [¬ (X3_kindOf (am_sub σ 11) a1) = (-1), 8 ≤ (X3_kindOf (am_sub σ 11) a1)]) rfl ⟨c1, c2, trivial⟩ ?_
      subst h
      exact hV.rz rfl rfl rfl (Or.inr rfl) hP
    · rw [if_neg c2] at h
      refine hV.run 9 [0, 0] (ws' := wX2 11 σ τ) (pc' := 22) (ls' := [(2, .int (X3_kindOf (am_sub σ 11) a1)), (0, .ref 0), (1, .int a1)]) (st' := [.int a1, .ref 0]) (ps := [¬ (X3_kindOf (am_sub σ 11) a1) = (-1), ¬ 8 ≤ (X3_kindOf (am_sub σ 11) a1)]) rfl ⟨c1, c2, trivial⟩ ?_
      refine hV.cOi (as := [.int a1]) (rest := []) (st := [.int a1, .ref 0]) (ws2 := wX2 11 σ τ) (pc2 := 25) kX2_114 (c_X2_isLeftOut l σ τ a1) rfl rfl rfl rfl rfl rfl rfl rfl rfl ?_
      by_cases c3 : (X2_isLeftOut σ τ a1) = true
      · rw [if_pos c3] at h
        refine hV.run 3 [0] (ws' := wX2 11 σ τ) (pc' := 33) (ls' := [(2, .int (X3_kindOf (am_sub σ 11) a1)), (0, .ref 0), (1, .int a1)]) (st' := [.int 1]) (ps := [¬ (b2i (X2_isLeftOut σ τ a1)) = 0]) rfl ⟨(b2i_t c3), trivial⟩ ?_
        subst h
        exact hV.rz rfl rfl rfl (Or.inr rfl) hP
      · rw [if_neg c3] at h
        refine hV.run 2 [1] (ws' := wX2 11 σ τ) (pc' := 33) (ls' := [(2, .int (X3_kindOf (am_sub σ 11) a1)), (0, .ref 0), (1, .int a1)]) (st' := [.int 0]) (ps := [(b2i (X2_isLeftOut σ τ a1)) = 0]) rfl ⟨(b2i_f c3), trivial⟩ ?_
        subst h
        exact hV.rz rfl rfl rfl (Or.inl rfl) hP

