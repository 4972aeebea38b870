def X8_readPart_J65 (n : Nat) (rE : am_M → Int32 → Option am_M) (σ : am_M) (l2 : Int32) : Option am_M := (X8_emit σ (20 + l2)).bind (fun q1 => if (q1 0 18) = 0 then (X8_stepOn n q1).bind (fun q3 => some q3) else (some q1))
set_option maxRecDepth 100000 in
set_option maxHeartbeats 4000000 in
theorem p_X8_readPart_J65 {dE : Nat} {l : Launch} {Post : Option Value → am_W → Prop} {V : am_VT} (hV : am_B l RX8 false (dE + 7) (am_cdT' tX8_readPart) (am_rfL rfX8) none Post 36 V) (n : Nat) (rE : am_M → Int32 → Option am_M) (hrE : ∀ (l : Launch) (σ : am_M) (a1 : Int32) (res : am_M), rE σ a1 = some res → am_Con l yX8_readExpression cX8_readExpression 4 none dE [.ref 0, .int a1] (wX8 σ) (fun (r : Option Value) (w : am_W) => r = none ∧ w = (wX8 res))) (res : am_M) (hP : Post none (wX8 res)) (σ : am_M) (l2 : Int32) (h : X8_readPart_J65 n rE σ l2 = some res) : V (wX8 σ) 65 [(0, .ref 0), (2, .int l2)] [] := by
  unfold X8_readPart_J65 at h
  refine hV.run 4 [] (ws' := wX8 σ) (pc' := 70) (ls' := [(0, .ref 0), (2, .int l2)]) (st' := [.int (20 + l2), .ref 0]) (ps := []) rfl trivial ?_
  obtain ⟨q1, hq1, h⟩ := am_bind h
  refine hV.cOv (as := [.int (20 + l2)]) (rest := []) (st := [.int (20 + l2), .ref 0]) (ws2 := wX8 q1) (pc2 := 73) kX8_254 (c_X8_emit l σ (20 + l2) q1 hq1) rfl rfl (am_bA (c := 1) (k := 7) (e := dE) (by decide)) rfl rfl rfl rfl rfl rfl ?_
  by_cases c2 : (q1 0 18) = 0
  · rw [if_pos c2] at h
    refine hV.run 4 [0] (ws' := wX8 q1) (pc' := 81) (ls' := [(0, .ref 0), (2, .int l2)]) (st' := [.ref 0]) (ps := [(q1 0 18) = 0]) rfl ⟨c2, trivial⟩ ?_
    obtain ⟨q3, hq3, h⟩ := am_bind h
    refine hV.cOv (as := []) (rest := []) (st := [.ref 0]) (ws2 := wX8 q3) (pc2 := 84) kX8_245 (c_X8_stepOn l n q1 q3 hq3) rfl rfl (am_bA (c := 2) (k := 7) (e := dE) (by decide)) rfl rfl rfl rfl rfl rfl ?_
    refine hV.run 1 [] (ws' := wX8 q3) (pc' := 121) (ls' := [(0, .ref 0), (2, .int l2)]) (st' := []) (ps := []) rfl trivial ?_
    cases h
    exact hV.rv rfl rfl rfl hP
  · rw [if_neg c2] at h
    refine hV.run 4 [1] (ws' := wX8 q1) (pc' := 121) (ls' := [(0, .ref 0), (2, .int l2)]) (st' := []) (ps := [¬ (q1 0 18) = 0]) rfl ⟨c2, trivial⟩ ?_
    cases h
    exact hV.rv rfl rfl rfl hP
def X8_readPart (n : Nat) (rE : am_M → Int32 → Option am_M) (σ : am_M) (a1 : Int32) : Option am_M := if (σ 0 18) = 0 then (if (σ 0 13) = 2 then (X8_readNumber n σ 0 9999).bind (fun q3 => (X8_emit q3.2 0).bind (fun q4 => (X8_emit q4 q3.1).bind (fun q5 => some q5))) else (if (σ 0 13) = 1 then (X8_whichV n σ).bind (fun q7 => if q7 = (-1) then (X8_wrong σ 3).bind (fun q9 => X8_readPart_J65 n rE q9 q7) else (X8_readPart_J65 n rE σ q7)) else (if (X8_isSign σ 40) = true then (X8_stepOn n σ).bind (fun q11 => (rE q11 (a1 + 1)).bind (fun q12 => (X8_need n q12 41).bind (fun q13 => some q13))) else (X8_wrong σ 1).bind (fun q14 => some q14)))) else (some σ)
set_option maxRecDepth 100000 in
set_option maxHeartbeats 4000000 in
theorem c_X8_readPart (l : Launch) (n : Nat) (rE : am_M → Int32 → Option am_M) (dE : Nat) (hrE : ∀ (l : Launch) (σ : am_M) (a1 : Int32) (res : am_M), rE σ a1 = some res → am_Con l yX8_readExpression cX8_readExpression 4 none dE [.ref 0, .int a1] (wX8 σ) (fun (r : Option Value) (w : am_W) => r = none ∧ w = (wX8 res))) (σ : am_M) (a1 : Int32) (res : am_M) (h : X8_readPart n rE σ a1 = some res) : am_Con l yX8_readPart cX8_readPart 3 none (dE + 7) [.ref 0, .int a1] (wX8 σ) (fun (r : Option Value) (w : am_W) => r = none ∧ w = (wX8 res)) := by
  refine am_metn (n0 := 36) (own := RX8) (cd := am_cdT' tX8_readPart) (rf := am_rfL rfX8) (ini := false) rfl (by decide +kernel) rfl (by decide) dX8_readPart rfX8_ok (Nat.le_of_ble_eq_true rfl) ?_
  intro V hV
  have hP : (fun (r : Option Value) (w : am_W) => r = none ∧ w = (wX8 res)) none (wX8 res) := ⟨rfl, rfl⟩
  show V (wX8 σ) 0 [(0, .ref 0), (1, .int a1)] []
  unfold X8_readPart at h
  by_cases c1 : (σ 0 18) = 0
  · rw [if_pos c1] at h
    by_cases c2 : (σ 0 13) = 2
    · rw [if_pos c2] at h
      refine hV.run 10 [1, 0] (ws' := wX8 σ) (pc' := 21) (ls' := [(0, .ref 0), (1, .int a1)]) (st' := [.int 9999, .int 0, .ref 0]) (ps := [(σ 0 18) = 0, (σ 0 13) = 2]) rfl ⟨c1, c2, trivial⟩ ?_
      obtain ⟨q3, hq3, h⟩ := am_bind h
      refine hV.cOi (as := [.int 0, .int 9999]) (rest := []) (st := [.int 9999, .int 0, .ref 0]) (ws2 := wX8 q3.2) (pc2 := 24) kX8_251 (c_X8_readNumber l n σ 0 9999 q3 hq3) rfl rfl (am_bA (c := 3) (k := 7) (e := dE) (by decide)) rfl rfl rfl rfl rfl rfl ?_
      refine hV.run 3 [] (ws' := wX8 q3.2) (pc' := 27) (ls' := [(2, .int q3.1), (0, .ref 0), (1, .int a1)]) (st' := [.int 0, .ref 0]) (ps := []) rfl trivial ?_
      obtain ⟨q4, hq4, h⟩ := am_bind h
      refine hV.cOv (as := [.int 0]) (rest := []) (st := [.int 0, .ref 0]) (ws2 := wX8 q4) (pc2 := 30) kX8_254 (c_X8_emit l q3.2 0 q4 hq4) rfl rfl (am_bA (c := 1) (k := 7) (e := dE) (by decide)) rfl rfl rfl rfl rfl rfl ?_
      refine hV.run 2 [] (ws' := wX8 q4) (pc' := 32) (ls' := [(2, .int q3.1), (0, .ref 0), (1, .int a1)]) (st' := [.int q3.1, .ref 0]) (ps := []) rfl trivial ?_
      obtain ⟨q5, hq5, h⟩ := am_bind h
      refine hV.cOv (as := [.int q3.1]) (rest := []) (st := [.int q3.1, .ref 0]) (ws2 := wX8 q5) (pc2 := 35) kX8_254 (c_X8_emit l q4 q3.1 q5 hq5) rfl rfl (am_bA (c := 1) (k := 7) (e := dE) (by decide)) rfl rfl rfl rfl rfl rfl ?_
      refine hV.run 1 [] (ws' := wX8 q5) (pc' := 121) (ls' := [(2, .int q3.1), (0, .ref 0), (1, .int a1)]) (st' := []) (ps := []) rfl trivial ?_
      cases h
      exact hV.rv rfl rfl rfl hP
    · rw [if_neg c2] at h
      by_cases c6 : (σ 0 13) = 1
      · rw [if_pos c6] at h
        refine hV.run 14 [1, 1, 0] (ws' := wX8 σ) (pc' := 51) (ls' := [(0, .ref 0), (1, .int a1)]) (st' := [.ref 2, .ref 0]) (ps := [(σ 0 18) = 0, ¬ (σ 0 13) = 2, (σ 0 13) = 1]) rfl ⟨c1, c2, c6, trivial⟩ ?_
        obtain ⟨q7, hq7, h⟩ := am_bind h
        refine hV.cOi (as := [.ref 2]) (rest := []) (st := [.ref 2, .ref 0]) (ws2 := wX8 σ) (pc2 := 54) kX8_257 (c_X8_whichV l n σ q7 hq7) rfl rfl (am_bA (c := 6) (k := 7) (e := dE) (by decide)) rfl rfl rfl rfl rfl rfl ?_
        by_cases c8 : q7 = (-1)
        · rw [if_pos c8] at h
          refine hV.run 6 [0] (ws' := wX8 σ) (pc' := 62) (ls' := [(2, .int q7), (0, .ref 0), (1, .int a1)]) (st' := [.int 3, .ref 0]) (ps := [q7 = (-1)]) rfl ⟨c8, trivial⟩ ?_
          obtain ⟨q9, hq9, h⟩ := am_bind h
          refine hV.cOv (as := [.int 3]) (rest := []) (st := [.int 3, .ref 0]) (ws2 := wX8 q9) (pc2 := 65) kX8_241 (c_X8_wrong l σ 3 q9 hq9) rfl rfl (am_bA (c := 1) (k := 7) (e := dE) (by decide)) rfl rfl rfl rfl rfl rfl ?_
          refine hV.pick [1, 0] (ls' := [(0, .ref 0), (2, .int q7)]) rfl ?_
          exact p_X8_readPart_J65 hV n rE hrE res hP q9 q7 h
        · rw [if_neg c8] at h
          refine hV.run 4 [1] (ws' := wX8 σ) (pc' := 65) (ls' := [(2, .int q7), (0, .ref 0), (1, .int a1)]) (st' := []) (ps := [¬ q7 = (-1)]) rfl ⟨c8, trivial⟩ ?_
          refine hV.pick [1, 0] (ls' := [(0, .ref 0), (2, .int q7)]) rfl ?_
          exact p_X8_readPart_J65 hV n rE hrE res hP σ q7 h
      · rw [if_neg c6] at h
        refine hV.run 13 [1, 1, 1] (ws' := wX8 σ) (pc' := 90) (ls' := [(0, .ref 0), (1, .int a1)]) (st' := [.int 40, .ref 0]) (ps := [(σ 0 18) = 0, ¬ (σ 0 13) = 2, ¬ (σ 0 13) = 1]) rfl ⟨c1, c2, c6, trivial⟩ ?_
        refine hV.cOi (as := [.int 40]) (rest := []) (st := [.int 40, .ref 0]) (ws2 := wX8 σ) (pc2 := 93) kX8_238 (c_X8_isSign l σ 40) rfl rfl (am_bA (c := 1) (k := 7) (e := dE) (by decide)) rfl rfl rfl rfl rfl rfl ?_
        by_cases c10 : (X8_isSign σ 40) = true
        · rw [if_pos c10] at h
          refine hV.run 2 [0] (ws' := wX8 σ) (pc' := 97) (ls' := [(0, .ref 0), (1, .int a1)]) (st' := [.ref 0]) (ps := [¬ (b2i (X8_isSign σ 40)) = 0]) rfl ⟨(b2i_t c10), trivial⟩ ?_
          obtain ⟨q11, hq11, h⟩ := am_bind h
          refine hV.cOv (as := []) (rest := []) (st := [.ref 0]) (ws2 := wX8 q11) (pc2 := 100) kX8_245 (c_X8_stepOn l n σ q11 hq11) rfl rfl (am_bA (c := 2) (k := 7) (e := dE) (by decide)) rfl rfl rfl rfl rfl rfl ?_
          refine hV.run 4 [] (ws' := wX8 q11) (pc' := 104) (ls' := [(0, .ref 0), (1, .int a1)]) (st' := [.int (a1 + 1), .ref 0]) (ps := []) rfl trivial ?_
          obtain ⟨q12, hq12, h⟩ := am_bind h
          refine hV.cOv (as := [.int (a1 + 1)]) (rest := []) (st := [.int (a1 + 1), .ref 0]) (ws2 := wX8 q12) (pc2 := 107) kX8_261 (hrE l q11 (a1 + 1) q12 hq12) rfl rfl (am_bC (k := 7) (e := dE) (by decide)) rfl rfl rfl rfl rfl rfl ?_
          refine hV.run 2 [] (ws' := wX8 q12) (pc' := 110) (ls' := [(0, .ref 0), (1, .int a1)]) (st' := [.int 41, .ref 0]) (ps := []) rfl trivial ?_
          obtain ⟨q13, hq13, h⟩ := am_bind h
          refine hV.cOv (as := [.int 41]) (rest := []) (st := [.int 41, .ref 0]) (ws2 := wX8 q13) (pc2 := 113) kX8_264 (c_X8_need l n q12 41 q13 hq13) rfl rfl (am_bA (c := 3) (k := 7) (e := dE) (by decide)) rfl rfl rfl rfl rfl rfl ?_
          refine hV.run 1 [] (ws' := wX8 q13) (pc' := 121) (ls' := [(0, .ref 0), (1, .int a1)]) (st' := []) (ps := []) rfl trivial ?_
          cases h
          exact hV.rv rfl rfl rfl hP
        · rw [if_neg c10] at h
          refine hV.run 3 [1] (ws' := wX8 σ) (pc' := 118) (ls' := [(0, .ref 0), (1, .int a1)]) (st' := [.int 1, .ref 0]) (ps := [(b2i (X8_isSign σ 40)) = 0]) rfl ⟨(b2i_f c10), trivial⟩ ?_
          obtain ⟨q14, hq14, h⟩ := am_bind h
          refine hV.cOv (as := [.int 1]) (rest := []) (st := [.int 1, .ref 0]) (ws2 := wX8 q14) (pc2 := 121) kX8_241 (c_X8_wrong l σ 1 q14 hq14) rfl rfl (am_bA (c := 1) (k := 7) (e := dE) (by decide)) rfl rfl rfl rfl rfl rfl ?_
          cases h
          exact hV.rv rfl rfl rfl hP
  · rw [if_neg c1] at h
    refine hV.run 3 [0] (ws' := wX8 σ) (pc' := 7) (ls' := [(0, .ref 0), (1, .int a1)]) (st' := []) (ps := [¬ (σ 0 18) = 0]) rfl ⟨c1, trivial⟩ ?_
    cases h
    exact hV.rv rfl rfl rfl hP

def X8_readProduct_J37 (n : Nat) (rE : am_M → Int32 → Option am_M) (kont5 : am_M → Int32 → Option am_M) (σ : am_M) (l1 : Int32) (s0 : Int32) : Option am_M := (X8_stepOn n σ).bind (fun q1 => (X8_readPart n rE q1 l1).bind (fun q2 => (X8_emit q2 s0).bind (fun q3 => kont5 q3 l1)))
set_option maxRecDepth 100000 in
set_option maxHeartbeats 4000000 in
theorem p_X8_readProduct_J37 {dE : Nat} {l : Launch} {Post : Option Value → am_W → Prop} {V : am_VT} (hV : am_B l RX8 false (dE + 8) (am_cdT' tX8_readProduct) (am_rfL rfX8) none Post 36 V) (n : Nat) (rE : am_M → Int32 → Option am_M) (hrE : ∀ (l : Launch) (σ : am_M) (a1 : Int32) (res : am_M), rE σ a1 = some res → am_Con l yX8_readExpression cX8_readExpression 4 none dE [.ref 0, .int a1] (wX8 σ) (fun (r : Option Value) (w : am_W) => r = none ∧ w = (wX8 res))) (res : am_M) (hP : Post none (wX8 res)) (kont5 : am_M → Int32 → Option am_M) (hk5 : ∀ (σ : am_M) (l1 : Int32), kont5 σ l1 = some res → V (wX8 σ) 5 [(0, .ref 0), (1, .int l1)] []) (σ : am_M) (l1 : Int32) (s0 : Int32) (h : X8_readProduct_J37 n rE kont5 σ l1 s0 = some res) : V (wX8 σ) 37 [(0, .ref 0), (1, .int l1)] [.int s0] := by
  unfold X8_readProduct_J37 at h
  refine hV.run 2 [] (ws' := wX8 σ) (pc' := 39) (ls' := [(2, .int s0), (0, .ref 0), (1, .int l1)]) (st' := [.ref 0]) (ps := []) rfl trivial ?_
  obtain ⟨q1, hq1, h⟩ := am_bind h
  refine hV.cOv (as := []) (rest := []) (st := [.ref 0]) (ws2 := wX8 q1) (pc2 := 42) kX8_245 (c_X8_stepOn l n σ q1 hq1) rfl rfl (am_bA (c := 2) (k := 8) (e := dE) (by decide)) rfl rfl rfl rfl rfl rfl ?_
  refine hV.run 2 [] (ws' := wX8 q1) (pc' := 44) (ls' := [(2, .int s0), (0, .ref 0), (1, .int l1)]) (st' := [.int l1, .ref 0]) (ps := []) rfl trivial ?_
  obtain ⟨q2, hq2, h⟩ := am_bind h
  refine hV.cOv (as := [.int l1]) (rest := []) (st := [.int l1, .ref 0]) (ws2 := wX8 q2) (pc2 := 47) kX8_267 (c_X8_readPart l n rE dE hrE q1 l1 q2 hq2) rfl rfl (am_bB (j := 7) (k := 8) (e := dE) (by decide)) rfl rfl rfl rfl rfl rfl ?_
  refine hV.run 2 [] (ws' := wX8 q2) (pc' := 49) (ls' := [(2, .int s0), (0, .ref 0), (1, .int l1)]) (st' := [.int s0, .ref 0]) (ps := []) rfl trivial ?_
  obtain ⟨q3, hq3, h⟩ := am_bind h
  refine hV.cOv (as := [.int s0]) (rest := []) (st := [.int s0, .ref 0]) (ws2 := wX8 q3) (pc2 := 52) kX8_254 (c_X8_emit l q2 s0 q3 hq3) rfl rfl (am_bA (c := 1) (k := 8) (e := dE) (by decide)) rfl rfl rfl rfl rfl rfl ?_
  refine hV.run 1 [] (ws' := wX8 q3) (pc' := 5) (ls' := [(2, .int s0), (0, .ref 0), (1, .int l1)]) (st' := []) (ps := []) rfl trivial ?_
  refine hV.pick [1, 2] (ls' := [(0, .ref 0), (1, .int l1)]) rfl ?_
  exact hk5 q3 l1 h
def X8_readProduct_J23 (n : Nat) (rE : am_M → Int32 → Option am_M) (kont5 : am_M → Int32 → Option am_M) (σ : am_M) (l1 : Int32) : Option am_M := if (X8_isSign σ 42) = true then (X8_readProduct_J37 n rE kont5 σ l1 3) else (X8_readProduct_J37 n rE kont5 σ l1 4)
set_option maxRecDepth 100000 in
set_option maxHeartbeats 4000000 in
theorem p_X8_readProduct_J23 {dE : Nat} {l : Launch} {Post : Option Value → am_W → Prop} {V : am_VT} (hV : am_B l RX8 false (dE + 8) (am_cdT' tX8_readProduct) (am_rfL rfX8) none Post 36 V) (n : Nat) (rE : am_M → Int32 → Option am_M) (hrE : ∀ (l : Launch) (σ : am_M) (a1 : Int32) (res : am_M), rE σ a1 = some res → am_Con l yX8_readExpression cX8_readExpression 4 none dE [.ref 0, .int a1] (wX8 σ) (fun (r : Option Value) (w : am_W) => r = none ∧ w = (wX8 res))) (res : am_M) (hP : Post none (wX8 res)) (kont5 : am_M → Int32 → Option am_M) (hk5 : ∀ (σ : am_M) (l1 : Int32), kont5 σ l1 = some res → V (wX8 σ) 5 [(0, .ref 0), (1, .int l1)] []) (σ : am_M) (l1 : Int32) (h : X8_readProduct_J23 n rE kont5 σ l1 = some res) : V (wX8 σ) 23 [(0, .ref 0), (1, .int l1)] [] := by
  unfold X8_readProduct_J23 at h
  refine hV.run 2 [] (ws' := wX8 σ) (pc' := 26) (ls' := [(0, .ref 0), (1, .int l1)]) (st' := [.int 42, .ref 0]) (ps := []) rfl trivial ?_
  refine hV.cOi (as := [.int 42]) (rest := []) (st := [.int 42, .ref 0]) (ws2 := wX8 σ) (pc2 := 29) kX8_238 (c_X8_isSign l σ 42) rfl rfl (am_bA (c := 1) (k := 8) (e := dE) (by decide)) rfl rfl rfl rfl rfl rfl ?_
  by_cases c1 : (X8_isSign σ 42) = true
  · rw [if_pos c1] at h
    refine hV.run 3 [0] (ws' := wX8 σ) (pc' := 37) (ls' := [(0, .ref 0), (1, .int l1)]) (st' := [.int 3]) (ps := [¬ (b2i (X8_isSign σ 42)) = 0]) rfl ⟨(b2i_t c1), trivial⟩ ?_
    exact p_X8_readProduct_J37 hV n rE hrE res hP kont5 hk5 σ l1 3 h
  · rw [if_neg c1] at h
    refine hV.run 2 [1] (ws' := wX8 σ) (pc' := 37) (ls' := [(0, .ref 0), (1, .int l1)]) (st' := [.int 4]) (ps := [(b2i (X8_isSign σ 42)) = 0]) rfl ⟨(b2i_f c1), trivial⟩ ?_
    exact p_X8_readProduct_J37 hV n rE hrE res hP kont5 hk5 σ l1 4 h
def X8_readProduct_B5 (n : Nat) (rE : am_M → Int32 → Option am_M) (kont5 : am_M → Int32 → Option am_M) (σ : am_M) (l1 : Int32) : Option am_M := if (X8_isSign σ 42) = true then (X8_readProduct_J23 n rE kont5 σ l1) else (if (X8_isSign σ 47) = true then (X8_readProduct_J23 n rE kont5 σ l1) else (some σ))
def X8_readProduct_L5 (n : Nat) (rE : am_M → Int32 → Option am_M) : Nat → am_M → Int32 → Option am_M
 | 0 => fun _ _ => none
 | k + 1 => fun σ l1 => X8_readProduct_B5 n rE (X8_readProduct_L5 n rE k) σ l1
set_option maxRecDepth 100000 in
set_option maxHeartbeats 4000000 in
theorem p_X8_readProduct_B5 {dE : Nat} {l : Launch} {Post : Option Value → am_W → Prop} {V : am_VT} (hV : am_B l RX8 false (dE + 8) (am_cdT' tX8_readProduct) (am_rfL rfX8) none Post 36 V) (n : Nat) (rE : am_M → Int32 → Option am_M) (hrE : ∀ (l : Launch) (σ : am_M) (a1 : Int32) (res : am_M), rE σ a1 = some res → am_Con l yX8_readExpression cX8_readExpression 4 none dE [.ref 0, .int a1] (wX8 σ) (fun (r : Option Value) (w : am_W) => r = none ∧ w = (wX8 res))) (res : am_M) (hP : Post none (wX8 res)) (kont5 : am_M → Int32 → Option am_M) (hk5 : ∀ (σ : am_M) (l1 : Int32), kont5 σ l1 = some res → V (wX8 σ) 5 [(0, .ref 0), (1, .int l1)] []) (σ : am_M) (l1 : Int32) (h : X8_readProduct_B5 n rE kont5 σ l1 = some res) : V (wX8 σ) 5 [(0, .ref 0), (1, .int l1)] [] := by
  unfold X8_readProduct_B5 at h
  refine hV.run 2 [] (ws' := wX8 σ) (pc' := 8) (ls' := [(0, .ref 0), (1, .int l1)]) (st' := [.int 42, .ref 0]) (ps := []) rfl trivial ?_
  refine hV.cOi (as := [.int 42]) (rest := []) (st := [.int 42, .ref 0]) (ws2 := wX8 σ) (pc2 := 11) kX8_238 (c_X8_isSign l σ 42) rfl rfl (am_bA (c := 1) (k := 8) (e := dE) (by decide)) rfl rfl rfl rfl rfl rfl ?_
  by_cases c1 : (X8_isSign σ 42) = true
  · rw [if_pos c1] at h
    refine hV.run 1 [1] (ws' := wX8 σ) (pc' := 23) (ls' := [(0, .ref 0), (1, .int l1)]) (st' := []) (ps := [¬ (b2i (X8_isSign σ 42)) = 0]) rfl ⟨(b2i_t c1), trivial⟩ ?_
    exact p_X8_readProduct_J23 hV n rE hrE res hP kont5 hk5 σ l1 h
  · rw [if_neg c1] at h
    refine hV.run 3 [0] (ws' := wX8 σ) (pc' := 17) (ls' := [(0, .ref 0), (1, .int l1)]) (st' := [.int 47, .ref 0]) (ps := [(b2i (X8_isSign σ 42)) = 0]) rfl ⟨(b2i_f c1), trivial⟩ ?_
    refine hV.cOi (as := [.int 47]) (rest := []) (st := [.int 47, .ref 0]) (ws2 := wX8 σ) (pc2 := 20) kX8_238 (c_X8_isSign l σ 47) rfl rfl (am_bA (c := 1) (k := 8) (e := dE) (by decide)) rfl rfl rfl rfl rfl rfl ?_
    by_cases c2 : (X8_isSign σ 47) = true
    · rw [if_pos c2] at h
      refine hV.run 1 [0] (ws' := wX8 σ) (pc' := 23) (ls' := [(0, .ref 0), (1, .int l1)]) (st' := []) (ps := [¬ (b2i (X8_isSign σ 47)) = 0]) rfl ⟨(b2i_t c2), trivial⟩ ?_
      exact p_X8_readProduct_J23 hV n rE hrE res hP kont5 hk5 σ l1 h
    · rw [if_neg c2] at h
      refine hV.run 1 [1] (ws' := wX8 σ) (pc' := 55) (ls' := [(0, .ref 0), (1, .int l1)]) (st' := []) (ps := [(b2i (X8_isSign σ 47)) = 0]) rfl ⟨(b2i_f c2), trivial⟩ ?_
      cases h
      exact hV.rv rfl rfl rfl hP
theorem p_X8_readProduct_L5 {dE : Nat} {l : Launch} {Post : Option Value → am_W → Prop} {V : am_VT} (hV : am_B l RX8 false (dE + 8) (am_cdT' tX8_readProduct) (am_rfL rfX8) none Post 36 V) (n : Nat) (rE : am_M → Int32 → Option am_M) (hrE : ∀ (l : Launch) (σ : am_M) (a1 : Int32) (res : am_M), rE σ a1 = some res → am_Con l yX8_readExpression cX8_readExpression 4 none dE [.ref 0, .int a1] (wX8 σ) (fun (r : Option Value) (w : am_W) => r = none ∧ w = (wX8 res))) (res : am_M) (hP : Post none (wX8 res)) : ∀ (k : Nat) (σ : am_M) (l1 : Int32) (h : X8_readProduct_L5 n rE k σ l1 = some res), V (wX8 σ) 5 [(0, .ref 0), (1, .int l1)] [] := by
  intro k
  induction k with
  | zero => intro σ l1 h; cases h
  | succ k ih => intro σ l1 h; exact p_X8_readProduct_B5 hV n rE hrE res hP _ ih σ l1 h
def X8_readProduct (n : Nat) (rE : am_M → Int32 → Option am_M) (σ : am_M) (a1 : Int32) : Option am_M := (X8_readPart n rE σ a1).bind (fun q1 => X8_readProduct_L5 n rE n q1 a1)
set_option maxRecDepth 100000 in
set_option maxHeartbeats 4000000 in
theorem c_X8_readProduct (l : Launch) (n : Nat) (rE : am_M → Int32 → Option am_M) (dE : Nat) (hrE : ∀ (l : Launch) (σ : am_M) (a1 : Int32) (res : am_M), rE σ a1 = some res → am_Con l yX8_readExpression cX8_readExpression 4 none dE [.ref 0, .int a1] (wX8 σ) (fun (r : Option Value) (w : am_W) => r = none ∧ w = (wX8 res))) (σ : am_M) (a1 : Int32) (res : am_M) (h : X8_readProduct n rE σ a1 = some res) : am_Con l yX8_readProduct cX8_readProduct 3 none (dE + 8) [.ref 0, .int a1] (wX8 σ) (fun (r : Option Value) (w : am_W) => r = none ∧ w = (wX8 res)) := by
  refine am_metn (n0 := 36) (own := RX8) (cd := am_cdT' tX8_readProduct) (rf := am_rfL rfX8) (ini := false) rfl (by decide +kernel) rfl (by decide) dX8_readProduct rfX8_ok (Nat.le_of_ble_eq_true rfl) ?_
  intro V hV
  have hP : (fun (r : Option Value) (w : am_W) => r = none ∧ w = (wX8 res)) none (wX8 res) := ⟨rfl, rfl⟩
  show V (wX8 σ) 0 [(0, .ref 0), (1, .int a1)] []
  unfold X8_readProduct at h
  refine hV.run 2 [] (ws' := wX8 σ) (pc' := 2) (ls' := [(0, .ref 0), (1, .int a1)]) (st' := [.int a1, .ref 0]) (ps := []) rfl trivial ?_
  obtain ⟨q1, hq1, h⟩ := am_bind h
  refine hV.cOv (as := [.int a1]) (rest := []) (st := [.int a1, .ref 0]) (ws2 := wX8 q1) (pc2 := 5) kX8_267 (c_X8_readPart l n rE dE hrE σ a1 q1 hq1) rfl rfl (am_bB (j := 7) (k := 8) (e := dE) (by decide)) rfl rfl rfl rfl rfl rfl ?_
  exact p_X8_readProduct_L5 hV n rE hrE res hP n q1 a1 h

def X8_readSum_J37 (n : Nat) (rE : am_M → Int32 → Option am_M) (kont5 : am_M → Int32 → Option am_M) (σ : am_M) (l1 : Int32) (s0 : Int32) : Option am_M := (X8_stepOn n σ).bind (fun q1 => (X8_readProduct n rE q1 l1).bind (fun q2 => (X8_emit q2 s0).bind (fun q3 => kont5 q3 l1)))
set_option maxRecDepth 100000 in
set_option maxHeartbeats 4000000 in
theorem p_X8_readSum_J37 {dE : Nat} {l : Launch} {Post : Option Value → am_W → Prop} {V : am_VT} (hV : am_B l RX8 false (dE + 9) (am_cdT' tX8_readSum) (am_rfL rfX8) none Post 36 V) (n : Nat) (rE : am_M → Int32 → Option am_M) (hrE : ∀ (l : Launch) (σ : am_M) (a1 : Int32) (res : am_M), rE σ a1 = some res → am_Con l yX8_readExpression cX8_readExpression 4 none dE [.ref 0, .int a1] (wX8 σ) (fun (r : Option Value) (w : am_W) => r = none ∧ w = (wX8 res))) (res : am_M) (hP : Post none (wX8 res)) (kont5 : am_M → Int32 → Option am_M) (hk5 : ∀ (σ : am_M) (l1 : Int32), kont5 σ l1 = some res → V (wX8 σ) 5 [(0, .ref 0), (1, .int l1)] []) (σ : am_M) (l1 : Int32) (s0 : Int32) (h : X8_readSum_J37 n rE kont5 σ l1 s0 = some res) : V (wX8 σ) 37 [(0, .ref 0), (1, .int l1)] [.int s0] := by
  unfold X8_readSum_J37 at h
  refine hV.run 2 [] (ws' := wX8 σ) (pc' := 39) (ls' := [(2, .int s0), (0, .ref 0), (1, .int l1)]) (st' := [.ref 0]) (ps := []) rfl trivial ?_
  obtain ⟨q1, hq1, h⟩ := am_bind h
  refine hV.cOv (as := []) (rest := []) (st := [.ref 0]) (ws2 := wX8 q1) (pc2 := 42) kX8_245 (c_X8_stepOn l n σ q1 hq1) rfl rfl (am_bA (c := 2) (k := 9) (e := dE) (by decide)) rfl rfl rfl rfl rfl rfl ?_
  refine hV.run 2 [] (ws' := wX8 q1) (pc' := 44) (ls' := [(2, .int s0), (0, .ref 0), (1, .int l1)]) (st' := [.int l1, .ref 0]) (ps := []) rfl trivial ?_
  obtain ⟨q2, hq2, h⟩ := am_bind h
  refine hV.cOv (as := [.int l1]) (rest := []) (st := [.int l1, .ref 0]) (ws2 := wX8 q2) (pc2 := 47) kX8_270 (c_X8_readProduct l n rE dE hrE q1 l1 q2 hq2) rfl rfl (am_bB (j := 8) (k := 9) (e := dE) (by decide)) rfl rfl rfl rfl rfl rfl ?_
  refine hV.run 2 [] (ws' := wX8 q2) (pc' := 49) (ls' := [(2, .int s0), (0, .ref 0), (1, .int l1)]) (st' := [.int s0, .ref 0]) (ps := []) rfl trivial ?_
  obtain ⟨q3, hq3, h⟩ := am_bind h
  refine hV.cOv (as := [.int s0]) (rest := []) (st := [.int s0, .ref 0]) (ws2 := wX8 q3) (pc2 := 52) kX8_254 (c_X8_emit l q2 s0 q3 hq3) rfl rfl (am_bA (c := 1) (k := 9) (e := dE) (by decide)) rfl rfl rfl rfl rfl rfl ?_
  refine hV.run 1 [] (ws' := wX8 q3) (pc' := 5) (ls' := [(2, .int s0), (0, .ref 0), (1, .int l1)]) (st' := []) (ps := []) rfl trivial ?_
  refine hV.pick [1, 2] (ls' := [(0, .ref 0), (1, .int l1)]) rfl ?_
  exact hk5 q3 l1 h
def X8_readSum_J23 (n : Nat) (rE : am_M → Int32 → Option am_M) (kont5 : am_M → Int32 → Option am_M) (σ : am_M) (l1 : Int32) : Option am_M := if (X8_isSign σ 43) = true then (X8_readSum_J37 n rE kont5 σ l1 1) else (X8_readSum_J37 n rE kont5 σ l1 2)
set_option maxRecDepth 100000 in
set_option maxHeartbeats 4000000 in
theorem p_X8_readSum_J23 {dE : Nat} {l : Launch} {Post : Option Value → am_W → Prop} {V : am_VT} (hV : am_B l RX8 false (dE + 9) (am_cdT' tX8_readSum) (am_rfL rfX8) none Post 36 V) (n : Nat) (rE : am_M → Int32 → Option am_M) (hrE : ∀ (l : Launch) (σ : am_M) (a1 : Int32) (res : am_M), rE σ a1 = some res → am_Con l yX8_readExpression cX8_readExpression 4 none dE [.ref 0, .int a1] (wX8 σ) (fun (r : Option Value) (w : am_W) => r = none ∧ w = (wX8 res))) (res : am_M) (hP : Post none (wX8 res)) (kont5 : am_M → Int32 → Option am_M) (hk5 : ∀ (σ : am_M) (l1 : Int32), kont5 σ l1 = some res → V (wX8 σ) 5 [(0, .ref 0), (1, .int l1)] []) (σ : am_M) (l1 : Int32) (h : X8_readSum_J23 n rE kont5 σ l1 = some res) : V (wX8 σ) 23 [(0, .ref 0), (1, .int l1)] [] := by
  unfold X8_readSum_J23 at h
  refine hV.run 2 [] (ws' := wX8 σ) (pc' := 26) (ls' := [(0, .ref 0), (1, .int l1)]) (st' := [.int 43, .ref 0]) (ps := []) rfl trivial ?_
  refine hV.cOi (as := [.int 43]) (rest := []) (st := [.int 43, .ref 0]) (ws2 := wX8 σ) (pc2 := 29) kX8_238 (c_X8_isSign l σ 43) rfl rfl (am_bA (c := 1) (k := 9) (e := dE) (by decide)) rfl rfl rfl rfl rfl rfl ?_
  by_cases c1 : (X8_isSign σ 43) = true
  · rw [if_pos c1] at h
    refine hV.run 3 [0] (ws' := wX8 σ) (pc' := 37) (ls' := [(0, .ref 0), (1, .int l1)]) (st' := [.int 1]) (ps := [¬ (b2i (X8_isSign σ 43)) = 0]) rfl ⟨(b2i_t c1), trivial⟩ ?_
    exact p_X8_readSum_J37 hV n rE hrE res hP kont5 hk5 σ l1 1 h
  · rw [if_neg c1] at h
    refine hV.run 2 [1] (ws' := wX8 σ) (pc' := 37) (ls' := [(0, .ref 0), (1, .int l1)]) (st' := [.int 2]) (ps := [(b2i (X8_isSign σ 43)) = 0]) rfl ⟨(b2i_f c1), trivial⟩ ?_
    exact p_X8_readSum_J37 hV n rE hrE res hP kont5 hk5 σ l1 2 h
def X8_readSum_B5 (n : Nat) (rE : am_M → Int32 → Option am_M) (kont5 : am_M → Int32 → Option am_M) (σ : am_M) (l1 : Int32) : Option am_M := if (X8_isSign σ 43) = true then (X8_readSum_J23 n rE kont5 σ l1) else (if (X8_isSign σ 45) = true then (X8_readSum_J23 n rE kont5 σ l1) else (some σ))
def X8_readSum_L5 (n : Nat) (rE : am_M → Int32 → Option am_M) : Nat → am_M → Int32 → Option am_M
 | 0 => fun _ _ => none
 | k + 1 => fun σ l1 => X8_readSum_B5 n rE (X8_readSum_L5 n rE k) σ l1
set_option maxRecDepth 100000 in
set_option maxHeartbeats 4000000 in
theorem p_X8_readSum_B5 {dE : Nat} {l : Launch} {Post : Option Value → am_W → Prop} {V : am_VT} (hV : am_B l RX8 false (dE + 9) (am_cdT' tX8_readSum) (am_rfL rfX8) none Post 36 V) (n : Nat) (rE : am_M → Int32 → Option am_M) (hrE : ∀ (l : Launch) (σ : am_M) (a1 : Int32) (res : am_M), rE σ a1 = some res → am_Con l yX8_readExpression cX8_readExpression 4 none dE [.ref 0, .int a1] (wX8 σ) (fun (r : Option Value) (w : am_W) => r = none ∧ w = (wX8 res))) (res : am_M) (hP : Post none (wX8 res)) (kont5 : am_M → Int32 → Option am_M) (hk5 : ∀ (σ : am_M) (l1 : Int32), kont5 σ l1 = some res → V (wX8 σ) 5 [(0, .ref 0), (1, .int l1)] []) (σ : am_M) (l1 : Int32) (h : X8_readSum_B5 n rE kont5 σ l1 = some res) : V (wX8 σ) 5 [(0, .ref 0), (1, .int l1)] [] := by
  unfold X8_readSum_B5 at h
  refine hV.run 2 [] (ws' := wX8 σ) (pc' := 8) (ls' := [(0, .ref 0), (1, .int l1)]) (st' := [.int 43, .ref 0]) (ps := []) rfl trivial ?_
  refine hV.cOi (as := [.int 43]) (rest := []) (st := [.int 43, .ref 0]) (ws2 := wX8 σ) (pc2 := 11) kX8_238 (c_X8_isSign l σ 43) rfl rfl (am_bA (c := 1) (k := 9) (e := dE) (by decide)) rfl rfl rfl rfl rfl rfl ?_
  by_cases c1 : (X8_isSign σ 43) = true
  · rw [if_pos c1] at h
    refine hV.run 1 [1] (ws' := wX8 σ) (pc' := 23) (ls' := [(0, .ref 0), (1, .int l1)]) (st' := []) (ps := [¬ (b2i (X8_isSign σ 43)) = 0]) rfl ⟨(b2i_t c1), trivial⟩ ?_
    exact p_X8_readSum_J23 hV n rE hrE res hP kont5 hk5 σ l1 h
  · rw [if_neg c1] at h
    refine hV.run 3 [0] (ws' := wX8 σ) (pc' := 17) (ls' := [(0, .ref 0), (1, .int l1)]) (st' := [.int 45, .ref 0]) (ps := [(b2i (X8_isSign σ 43)) = 0]) rfl ⟨(b2i_f c1), trivial⟩ ?_
    refine hV.cOi (as := [.int 45]) (rest := []) (st := [.int 45, .ref 0]) (ws2 := wX8 σ) (pc2 := 20) kX8_238 (c_X8_isSign l σ 45) rfl rfl (am_bA (c := 1) (k := 9) (e := dE) (by decide)) rfl rfl rfl rfl rfl rfl ?_
    by_cases c2 : (X8_isSign σ 45) = true
    · rw [if_pos c2] at h
      refine hV.run 1 [0] (ws' := wX8 σ) (pc' := 23) (ls' := [(0, .ref 0), (1, .int l1)]) (st' := []) (ps := [¬ (b2i (X8_isSign σ 45)) = 0]) rfl ⟨(b2i_t c2), trivial⟩ ?_
      exact p_X8_readSum_J23 hV n rE hrE res hP kont5 hk5 σ l1 h
    · rw [if_neg c2] at h
      refine hV.run 1 [1] (ws' := wX8 σ) (pc' := 55) (ls' := [(0, .ref 0), (1, .int l1)]) (st' := []) (ps := [(b2i (X8_isSign σ 45)) = 0]) rfl ⟨(b2i_f c2), trivial⟩ ?_
      cases h
      exact hV.rv rfl rfl rfl hP
theorem p_X8_readSum_L5 {dE : Nat} {l : Launch} {Post : Option Value → am_W → Prop} {V : am_VT} (hV : am_B l RX8 false (dE + 9) (am_cdT' tX8_readSum) (am_rfL rfX8) none Post 36 V) (n : Nat) (rE : am_M → Int32 → Option am_M) (hrE : ∀ (l : Launch) (σ : am_M) (a1 : Int32) (res : am_M), rE σ a1 = some res → am_Con l yX8_readExpression cX8_readExpression 4 none dE [.ref 0, .int a1] (wX8 σ) (fun (r : Option Value) (w : am_W) => r = none ∧ w = (wX8 res))) (res : am_M) (hP : Post none (wX8 res)) : ∀ (k : Nat) (σ : am_M) (l1 : Int32) (h : X8_readSum_L5 n rE k σ l1 = some res), V (wX8 σ) 5 [(0, .ref 0), (1, .int l1)] [] := by
  intro k
  induction k with
  | zero => intro σ l1 h; cases h
  | succ k ih => intro σ l1 h; exact p_X8_readSum_B5 hV n rE hrE res hP _ ih σ l1 h
def X8_readSum (n : Nat) (rE : am_M → Int32 → Option am_M) (σ : am_M) (a1 : Int32) : Option am_M := (X8_readProduct n rE σ a1).bind (fun q1 => X8_readSum_L5 n rE n q1 a1)
set_option maxRecDepth 100000 in
set_option maxHeartbeats 4000000 in
theorem c_X8_readSum (l : Launch) (n : Nat) (rE : am_M → Int32 → Option am_M) (dE : Nat) (hrE : ∀ (l : Launch) (σ : am_M) (a1 : Int32) (res : am_M), rE σ a1 = some res → am_Con l yX8_readExpression cX8_readExpression 4 none dE [.ref 0, .int a1] (wX8 σ) (fun (r : Option Value) (w : am_W) => r = none ∧ w = (wX8 res))) (σ : am_M) (a1 : Int32) (res : am_M) (h : X8_readSum n rE σ a1 = some res) : am_Con l yX8_readSum cX8_readSum 3 none (dE + 9) [.ref 0, .int a1] (wX8 σ) (fun (r : Option Value) (w : am_W) => r = none ∧ w = (wX8 res)) := by
  refine am_metn (n0 := 36) (own := RX8) (cd := am_cdT' tX8_readSum) (rf := am_rfL rfX8) (ini := false) rfl (by decide +kernel) rfl (by decide) dX8_readSum rfX8_ok (Nat.le_of_ble_eq_true rfl) ?_
  intro V hV
  have hP : (fun (r : Option Value) (w : am_W) => r = none ∧ w = (wX8 res)) none (wX8 res) := ⟨rfl, rfl⟩
  show V (wX8 σ) 0 [(0, .ref 0), (1, .int a1)] []
  unfold X8_readSum at h
  refine hV.run 2 [] (ws' := wX8 σ) (pc' := 2) (ls' := [(0, .ref 0), (1, .int a1)]) (st' := [.int a1, .ref 0]) (ps := []) rfl trivial ?_
  obtain ⟨q1, hq1, h⟩ := am_bind h
  refine hV.cOv (as := [.int a1]) (rest := []) (st := [.int a1, .ref 0]) (ws2 := wX8 q1) (pc2 := 5) kX8_270 (c_X8_readProduct l n rE dE hrE σ a1 q1 hq1) rfl rfl (am_bB (j := 8) (k := 9) (e := dE) (by decide)) rfl rfl rfl rfl rfl rfl ?_
  exact p_X8_readSum_L5 hV n rE hrE res hP n q1 a1 h

def X8_readExpression_J100 (n : Nat) (rE : am_M → Int32 → Option am_M) (σ : am_M) (l1 : Int32) (s0 : Int32) : Option am_M := (X8_stepOn n σ).bind (fun q1 => (X8_readSum n rE q1 l1).bind (fun q2 => (X8_emit q2 s0).bind (fun q3 => some q3)))
set_option maxRecDepth 100000 in
set_option maxHeartbeats 4000000 in
theorem p_X8_readExpression_J100 {dE : Nat} {l : Launch} {Post : Option Value → am_W → Prop} {V : am_VT} (hV : am_B l RX8 false (dE + 10) (am_cdT' tX8_readExpression) (am_rfL rfX8) none Post 36 V) (n : Nat) (rE : am_M → Int32 → Option am_M) (hrE : ∀ (l : Launch) (σ : am_M) (a1 : Int32) (res : am_M), rE σ a1 = some res → am_Con l yX8_readExpression cX8_readExpression 4 none dE [.ref 0, .int a1] (wX8 σ) (fun (r : Option Value) (w : am_W) => r = none ∧ w = (wX8 res))) (res : am_M) (hP : Post none (wX8 res)) (σ : am_M) (l1 : Int32) (s0 : Int32) (h : X8_readExpression_J100 n rE σ l1 s0 = some res) : V (wX8 σ) 100 [(0, .ref 0), (1, .int l1)] [.int s0] := by
  unfold X8_readExpression_J100 at h
  refine hV.run 2 [] (ws' := wX8 σ) (pc' := 102) (ls' := [(3, .int s0), (0, .ref 0), (1, .int l1)]) (st' := [.ref 0]) (ps := []) rfl trivial ?_
  obtain ⟨q1, hq1, h⟩ := am_bind h
  refine hV.cOv (as := []) (rest := []) (st := [.ref 0]) (ws2 := wX8 q1) (pc2 := 105) kX8_245 (c_X8_stepOn l n σ q1 hq1) rfl rfl (am_bA (c := 2) (k := 10) (e := dE) (by decide)) rfl rfl rfl rfl rfl rfl ?_
  refine hV.run 2 [] (ws' := wX8 q1) (pc' := 107) (ls' := [(3, .int s0), (0, .ref 0), (1, .int l1)]) (st' := [.int l1, .ref 0]) (ps := []) rfl trivial ?_
  obtain ⟨q2, hq2, h⟩ := am_bind h
  refine hV.cOv (as := [.int l1]) (rest := []) (st := [.int l1, .ref 0]) (ws2 := wX8 q2) (pc2 := 110) kX8_273 (c_X8_readSum l n rE dE hrE q1 l1 q2 hq2) rfl rfl (am_bB (j := 9) (k := 10) (e := dE) (by decide)) rfl rfl rfl rfl rfl rfl ?_
  refine hV.run 2 [] (ws' := wX8 q2) (pc' := 112) (ls' := [(3, .int s0), (0, .ref 0), (1, .int l1)]) (st' := [.int s0, .ref 0]) (ps := []) rfl trivial ?_
  obtain ⟨q3, hq3, h⟩ := am_bind h
  refine hV.cOv (as := [.int s0]) (rest := []) (st := [.int s0, .ref 0]) (ws2 := wX8 q3) (pc2 := 115) kX8_254 (c_X8_emit l q2 s0 q3 hq3) rfl rfl (am_bA (c := 1) (k := 10) (e := dE) (by decide)) rfl rfl rfl rfl rfl rfl ?_
  cases h
  exact hV.rv rfl rfl rfl hP
def X8_readExpression_J85 (n : Nat) (rE : am_M → Int32 → Option am_M) (σ : am_M) (l1 : Int32) : Option am_M := if (X8_isSign σ 60) = true then (X8_readExpression_J100 n rE σ l1 5) else (X8_readExpression_J100 n rE σ l1 6)
set_option maxRecDepth 100000 in
set_option maxHeartbeats 4000000 in
theorem p_X8_readExpression_J85 {dE : Nat} {l : Launch} {Post : Option Value → am_W → Prop} {V : am_VT} (hV : am_B l RX8 false (dE + 10) (am_cdT' tX8_readExpression) (am_rfL rfX8) none Post 36 V) (n : Nat) (rE : am_M → Int32 → Option am_M) (hrE : ∀ (l : Launch) (σ : am_M) (a1 : Int32) (res : am_M), rE σ a1 = some res → am_Con l yX8_readExpression cX8_readExpression 4 none dE [.ref 0, .int a1] (wX8 σ) (fun (r : Option Value) (w : am_W) => r = none ∧ w = (wX8 res))) (res : am_M) (hP : Post none (wX8 res)) (σ : am_M) (l1 : Int32) (h : X8_readExpression_J85 n rE σ l1 = some res) : V (wX8 σ) 85 [(0, .ref 0), (1, .int l1)] [] := by
  unfold X8_readExpression_J85 at h
  refine hV.run 2 [] (ws' := wX8 σ) (pc' := 88) (ls' := [(0, .ref 0), (1, .int l1)]) (st' := [.int 60, .ref 0]) (ps := []) rfl trivial ?_
  refine hV.cOi (as := [.int 60]) (rest := []) (st := [.int 60, .ref 0]) (ws2 := wX8 σ) (pc2 := 91) kX8_238 (c_X8_isSign l σ 60) rfl rfl (am_bA (c := 1) (k := 10) (e := dE) (by decide)) rfl rfl rfl rfl rfl rfl ?_
  by_cases c1 : (X8_isSign σ 60) = true
  · rw [if_pos c1] at h
    refine hV.run 3 [0] (ws' := wX8 σ) (pc' := 100) (ls' := [(0, .ref 0), (1, .int l1)]) (st' := [.int 5]) (ps := [¬ (b2i (X8_isSign σ 60)) = 0]) rfl ⟨(b2i_t c1), trivial⟩ ?_
    exact p_X8_readExpression_J100 hV n rE hrE res hP σ l1 5 h
  · rw [if_neg c1] at h
    refine hV.run 2 [1] (ws' := wX8 σ) (pc' := 100) (ls' := [(0, .ref 0), (1, .int l1)]) (st' := [.int 6]) (ps := [(b2i (X8_isSign σ 60)) = 0]) rfl ⟨(b2i_f c1), trivial⟩ ?_
    exact p_X8_readExpression_J100 hV n rE hrE res hP σ l1 6 h
def X8_readExpression_J62 (n : Nat) (rE : am_M → Int32 → Option am_M) (σ : am_M) (l1 : Int32) : Option am_M := (X8_readSum n rE σ l1).bind (fun q1 => if (X8_isSign q1 60) = true then (X8_readExpression_J85 n rE q1 l1) else (if (X8_isSign q1 61) = true then (X8_readExpression_J85 n rE q1 l1) else (some q1)))
set_option maxRecDepth 100000 in
set_option maxHeartbeats 4000000 in
theorem p_X8_readExpression_J62 {dE : Nat} {l : Launch} {Post : Option Value → am_W → Prop} {V : am_VT} (hV : am_B l RX8 false (dE + 10) (am_cdT' tX8_readExpression) (am_rfL rfX8) none Post 36 V) (n : Nat) (rE : am_M → Int32 → Option am_M) (hrE : ∀ (l : Launch) (σ : am_M) (a1 : Int32) (res : am_M), rE σ a1 = some res → am_Con l yX8_readExpression cX8_readExpression 4 none dE [.ref 0, .int a1] (wX8 σ) (fun (r : Option Value) (w : am_W) => r = none ∧ w = (wX8 res))) (res : am_M) (hP : Post none (wX8 res)) (σ : am_M) (l1 : Int32) (h : X8_readExpression_J62 n rE σ l1 = some res) : V (wX8 σ) 62 [(0, .ref 0), (1, .int l1)] [] := by
  unfold X8_readExpression_J62 at h
  refine hV.run 2 [] (ws' := wX8 σ) (pc' := 64) (ls' := [(0, .ref 0), (1, .int l1)]) (st' := [.int l1, .ref 0]) (ps := []) rfl trivial ?_
  obtain ⟨q1, hq1, h⟩ := am_bind h
  refine hV.cOv (as := [.int l1]) (rest := []) (st := [.int l1, .ref 0]) (ws2 := wX8 q1) (pc2 := 67) kX8_273 (c_X8_readSum l n rE dE hrE σ l1 q1 hq1) rfl rfl (am_bB (j := 9) (k := 10) (e := dE) (by decide)) rfl rfl rfl rfl rfl rfl ?_
  refine hV.run 2 [] (ws' := wX8 q1) (pc' := 70) (ls' := [(0, .ref 0), (1, .int l1)]) (st' := [.int 60, .ref 0]) (ps := []) rfl trivial ?_
  refine hV.cOi (as := [.int 60]) (rest := []) (st := [.int 60, .ref 0]) (ws2 := wX8 q1) (pc2 := 73) kX8_238 (c_X8_isSign l q1 60) rfl rfl (am_bA (c := 1) (k := 10) (e := dE) (by decide)) rfl rfl rfl rfl rfl rfl ?_
  by_cases c2 : (X8_isSign q1 60) = true
  · rw [if_pos c2] at h
    refine hV.run 1 [1] (ws' := wX8 q1) (pc' := 85) (ls' := [(0, .ref 0), (1, .int l1)]) (st' := []) (ps := [¬ (b2i (X8_isSign q1 60)) = 0]) rfl ⟨(b2i_t c2), trivial⟩ ?_
    exact p_X8_readExpression_J85 hV n rE hrE res hP q1 l1 h
  · rw [if_neg c2] at h
    refine hV.run 3 [0] (ws' := wX8 q1) (pc' := 79) (ls' := [(0, .ref 0), (1, .int l1)]) (st' := [.int 61, .ref 0]) (ps := [(b2i (X8_isSign q1 60)) = 0]) rfl ⟨(b2i_f c2), trivial⟩ ?_
    refine hV.cOi (as := [.int 61]) (rest := []) (st := [.int 61, .ref 0]) (ws2 := wX8 q1) (pc2 := 82) kX8_238 (c_X8_isSign l q1 61) rfl rfl (am_bA (c := 1) (k := 10) (e := dE) (by decide)) rfl rfl rfl rfl rfl rfl ?_
    by_cases c3 : (X8_isSign q1 61) = true
    · rw [if_pos c3] at h
      refine hV.run 1 [0] (ws' := wX8 q1) (pc' := 85) (ls' := [(0, .ref 0), (1, .int l1)]) (st' := []) (ps := [¬ (b2i (X8_isSign q1 61)) = 0]) rfl ⟨(b2i_t c3), trivial⟩ ?_
      exact p_X8_readExpression_J85 hV n rE hrE res hP q1 l1 h
    · rw [if_neg c3] at h
      refine hV.run 1 [1] (ws' := wX8 q1) (pc' := 115) (ls' := [(0, .ref 0), (1, .int l1)]) (st' := []) (ps := [(b2i (X8_isSign q1 61)) = 0]) rfl ⟨(b2i_f c3), trivial⟩ ?_
      cases h
      exact hV.rv rfl rfl rfl hP
def X8_readExpression_J38 (n : Nat) (rE : am_M → Int32 → Option am_M) (σ : am_M) (l1 : Int32) (s0 : Int32) : Option am_M := if s0 = 0 then (X8_wrong σ 1).bind (fun q2 => X8_readExpression_J62 n rE q2 l1) else (if l1 = 7 then (X8_wrong σ 2).bind (fun q4 => X8_readExpression_J62 n rE q4 l1) else (X8_readExpression_J62 n rE σ l1))
set_option maxRecDepth 100000 in
set_option maxHeartbeats 4000000 in
theorem p_X8_readExpression_J38 {dE : Nat} {l : Launch} {Post : Option Value → am_W → Prop} {V : am_VT} (hV : am_B l RX8 false (dE + 10) (am_cdT' tX8_readExpression) (am_rfL rfX8) none Post 36 V) (n : Nat) (rE : am_M → Int32 → Option am_M) (hrE : ∀ (l : Launch) (σ : am_M) (a1 : Int32) (res : am_M), rE σ a1 = some res → am_Con l yX8_readExpression cX8_readExpression 4 none dE [.ref 0, .int a1] (wX8 σ) (fun (r : Option Value) (w : am_W) => r = none ∧ w = (wX8 res))) (res : am_M) (hP : Post none (wX8 res)) (σ : am_M) (l1 : Int32) (s0 : Int32) (h : X8_readExpression_J38 n rE σ l1 s0 = some res) : V (wX8 σ) 38 [(0, .ref 0), (1, .int l1)] [.int s0] := by
  unfold X8_readExpression_J38 at h
  by_cases c1 : s0 = 0
  · rw [if_pos c1] at h
    refine hV.run 5 [0] (ws' := wX8 σ) (pc' := 45) (ls' := [(2, .int s0), (0, .ref 0), (1, .int l1)]) (st' := [.int 1, .ref 0]) (ps := [s0 = 0]) rfl ⟨c1, trivial⟩ ?_
    obtain ⟨q2, hq2, h⟩ := am_bind h
    refine hV.cOv (as := [.int 1]) (rest := []) (st := [.int 1, .ref 0]) (ws2 := wX8 q2) (pc2 := 48) kX8_241 (c_X8_wrong l σ 1 q2 hq2) rfl rfl (am_bA (c := 1) (k := 10) (e := dE) (by decide)) rfl rfl rfl rfl rfl rfl ?_
    refine hV.run 1 [] (ws' := wX8 q2) (pc' := 62) (ls' := [(2, .int s0), (0, .ref 0), (1, .int l1)]) (st' := []) (ps := []) rfl trivial ?_
    refine hV.pick [1, 2] (ls' := [(0, .ref 0), (1, .int l1)]) rfl ?_
    exact p_X8_readExpression_J62 hV n rE hrE res hP q2 l1 h
  · rw [if_neg c1] at h
    by_cases c3 : l1 = 7
    · rw [if_pos c3] at h
      refine hV.run 8 [1, 0] (ws' := wX8 σ) (pc' := 59) (ls' := [(2, .int s0), (0, .ref 0), (1, .int l1)]) (st' := [.int 2, .ref 0]) (ps := [¬ s0 = 0, l1 = 7]) rfl ⟨c1, c3, trivial⟩ ?_
      obtain ⟨q4, hq4, h⟩ := am_bind h
      refine hV.cOv (as := [.int 2]) (rest := []) (st := [.int 2, .ref 0]) (ws2 := wX8 q4) (pc2 := 62) kX8_241 (c_X8_wrong l σ 2 q4 hq4) rfl rfl (am_bA (c := 1) (k := 10) (e := dE) (by decide)) rfl rfl rfl rfl rfl rfl ?_
      refine hV.pick [1, 2] (ls' := [(0, .ref 0), (1, .int l1)]) rfl ?_
      exact p_X8_readExpression_J62 hV n rE hrE res hP q4 l1 h
    · rw [if_neg c3] at h
      refine hV.run 6 [1, 1] (ws' := wX8 σ) (pc' := 62) (ls' := [(2, .int s0), (0, .ref 0), (1, .int l1)]) (st' := []) (ps := [¬ s0 = 0, ¬ l1 = 7]) rfl ⟨c1, c3, trivial⟩ ?_
      refine hV.pick [1, 2] (ls' := [(0, .ref 0), (1, .int l1)]) rfl ?_
      exact p_X8_readExpression_J62 hV n rE hrE res hP σ l1 h
def X8_readExpression_J33 (n : Nat) (rE : am_M → Int32 → Option am_M) (σ : am_M) (l1 : Int32) : Option am_M := X8_readExpression_J38 n rE σ l1 1
set_option maxRecDepth 100000 in
set_option maxHeartbeats 4000000 in
theorem p_X8_readExpression_J33 {dE : Nat} {l : Launch} {Post : Option Value → am_W → Prop} {V : am_VT} (hV : am_B l RX8 false (dE + 10) (am_cdT' tX8_readExpression) (am_rfL rfX8) none Post 36 V) (n : Nat) (rE : am_M → Int32 → Option am_M) (hrE : ∀ (l : Launch) (σ : am_M) (a1 : Int32) (res : am_M), rE σ a1 = some res → am_Con l yX8_readExpression cX8_readExpression 4 none dE [.ref 0, .int a1] (wX8 σ) (fun (r : Option Value) (w : am_W) => r = none ∧ w = (wX8 res))) (res : am_M) (hP : Post none (wX8 res)) (σ : am_M) (l1 : Int32) (h : X8_readExpression_J33 n rE σ l1 = some res) : V (wX8 σ) 33 [(0, .ref 0), (1, .int l1)] [] := by
  unfold X8_readExpression_J33 at h
  refine hV.run 2 [] (ws' := wX8 σ) (pc' := 38) (ls' := [(0, .ref 0), (1, .int l1)]) (st' := [.int 1]) (ps := []) rfl trivial ?_
  exact p_X8_readExpression_J38 hV n rE hrE res hP σ l1 1 h
def X8_readExpression (n : Nat) (rE : am_M → Int32 → Option am_M) (σ : am_M) (a1 : Int32) : Option am_M := if (σ 0 18) = 0 then (if (σ 0 13) = 2 then (X8_readExpression_J33 n rE σ a1) else (if (σ 0 13) = 1 then (X8_readExpression_J33 n rE σ a1) else (if (X8_isSign σ 40) = true then (X8_readExpression_J33 n rE σ a1) else (X8_readExpression_J38 n rE σ a1 0)))) else (some σ)
set_option maxRecDepth 100000 in
set_option maxHeartbeats 4000000 in
theorem c_X8_readExpression (l : Launch) (n : Nat) (rE : am_M → Int32 → Option am_M) (dE : Nat) (hrE : ∀ (l : Launch) (σ : am_M) (a1 : Int32) (res : am_M), rE σ a1 = some res → am_Con l yX8_readExpression cX8_readExpression 4 none dE [.ref 0, .int a1] (wX8 σ) (fun (r : Option Value) (w : am_W) => r = none ∧ w = (wX8 res))) (σ : am_M) (a1 : Int32) (res : am_M) (h : X8_readExpression n rE σ a1 = some res) : am_Con l yX8_readExpression cX8_readExpression 4 none (dE + 10) [.ref 0, .int a1] (wX8 σ) (fun (r : Option Value) (w : am_W) => r = none ∧ w = (wX8 res)) := by
  refine am_metn (n0 := 36) (own := RX8) (cd := am_cdT' tX8_readExpression) (rf := am_rfL rfX8) (ini := false) rfl (by decide +kernel) rfl (by decide) dX8_readExpression rfX8_ok (Nat.le_of_ble_eq_true rfl) ?_
  intro V hV
  have hP : (fun (r : Option Value) (w : am_W) => r = none ∧ w = (wX8 res)) none (wX8 res) := ⟨rfl, rfl⟩
  show V (wX8 σ) 0 [(0, .ref 0), (1, .int a1)] []
  unfold X8_readExpression at h
  by_cases c1 : (σ 0 18) = 0
  · rw [if_pos c1] at h
    by_cases c2 : (σ 0 13) = 2
    · rw [if_pos c2] at h
      refine hV.run 7 [1, 1] (ws' := wX8 σ) (pc' := 33) (ls' := [(0, .ref 0), (1, .int a1)]) (st' := []) (ps := [(σ 0 18) = 0, (σ 0 13) = 2]) rfl ⟨c1, c2, trivial⟩ ?_
      exact p_X8_readExpression_J33 hV n rE hrE res hP σ a1 h
    · rw [if_neg c2] at h
      by_cases c3 : (σ 0 13) = 1
      · rw [if_pos c3] at h
        refine hV.run 11 [1, 0, 1] (ws' := wX8 σ) (pc' := 33) (ls' := [(0, .ref 0), (1, .int a1)]) (st' := []) (ps := [(σ 0 18) = 0, ¬ (σ 0 13) = 2, (σ 0 13) = 1]) rfl ⟨c1, c2, c3, trivial⟩ ?_
        exact p_X8_readExpression_J33 hV n rE hrE res hP σ a1 h
      · rw [if_neg c3] at h
        refine hV.run 13 [1, 0, 0] (ws' := wX8 σ) (pc' := 27) (ls' := [(0, .ref 0), (1, .int a1)]) (st' := [.int 40, .ref 0]) (ps := [(σ 0 18) = 0, ¬ (σ 0 13) = 2, ¬ (σ 0 13) = 1]) rfl ⟨c1, c2, c3, trivial⟩ ?_
        refine hV.cOi (as := [.int 40]) (rest := []) (st := [.int 40, .ref 0]) (ws2 := wX8 σ) (pc2 := 30) kX8_238 (c_X8_isSign l σ 40) rfl rfl (am_bA (c := 1) (k := 10) (e := dE) (by decide)) rfl rfl rfl rfl rfl rfl ?_
        by_cases c4 : (X8_isSign σ 40) = true
        · rw [if_pos c4] at h
          refine hV.run 1 [0] (ws' := wX8 σ) (pc' := 33) (ls' := [(0, .ref 0), (1, .int a1)]) (st' := []) (ps := [¬ (b2i (X8_isSign σ 40)) = 0]) rfl ⟨(b2i_t c4), trivial⟩ ?_
          exact p_X8_readExpression_J33 hV n rE hrE res hP σ a1 h
        · rw [if_neg c4] at h
          refine hV.run 2 [1] (ws' := wX8 σ) (pc' := 38) (ls' := [(0, .ref 0), (1, .int a1)]) (st' := [.int 0]) (ps := [(b2i (X8_isSign σ 40)) = 0]) rfl ⟨(b2i_f c4), trivial⟩ ?_
          exact p_X8_readExpression_J38 hV n rE hrE res hP σ a1 0 h
  · rw [if_neg c1] at h
    refine hV.run 3 [0] (ws' := wX8 σ) (pc' := 7) (ls' := [(0, .ref 0), (1, .int a1)]) (st' := []) (ps := [¬ (σ 0 18) = 0]) rfl ⟨c1, trivial⟩ ?_
    cases h
    exact hV.rv rfl rfl rfl hP

