def X8_readBranches_J62 (n : Nat) (rE : am_M → Int32 → Int32 → Option (Int32 × am_M)) (σ : am_M) : Option am_M := (X8_word n σ 26).bind (fun q1 => some q1)
set_option maxRecDepth 100000 in
set_option maxHeartbeats 4000000 in
theorem p_X8_readBranches_J62 {dE : Nat} {l : Launch} {Post : Option Value → am_W → Prop} {V : am_VT} (hV : am_B l RX8 false (dE + 101) (am_cdT' tX8_readBranches) (am_rfL rfX8) none Post 36 V) (n : Nat) (rE : am_M → Int32 → Int32 → Option (Int32 × am_M)) (hrE : ∀ (l : Launch) (σ : am_M) (a1 a2 : Int32) (res : Int32 × am_M), rE σ a1 a2 = some res → am_Con l yX8_readSteps cX8_readSteps 6 (some .int) dE [.ref 0, .int a1, .int a2] (wX8 σ) (fun (r : Option Value) (w : am_W) => r = (some (.int res.1)) ∧ w = (wX8 res.2))) (res : am_M) (hP : Post none (wX8 res)) (σ : am_M) (h : X8_readBranches_J62 n rE σ = some res) : V (wX8 σ) 62 [(0, .ref 0)] [] := by
  unfold X8_readBranches_J62 at h
  refine hV.run 1 [] (ws' := wX8 σ) (pc' := 63) (ls' := [(0, .ref 0)]) (st' := [.ref 0]) (ps := []) rfl trivial ?_
  refine hV.kSW 26 rfl rfl (by decide) ?_
  obtain ⟨q1, hq1, h⟩ := am_bind h
  refine hV.cOv (as := [.retAddr 26]) (rest := []) (st := [.retAddr 26, .ref 0]) (ws2 := wX8 q1) (pc2 := 69) kX8_286 (c_X8_word l n σ 26 q1 hq1) rfl rfl (am_bA (c := 6) (k := 101) (e := dE) (by decide)) rfl rfl rfl rfl rfl rfl ?_
  cases h
  exact hV.rv rfl rfl rfl hP
def X8_readBranches (n : Nat) (rE : am_M → Int32 → Int32 → Option (Int32 × am_M)) (σ : am_M) (a1 : Int32) (a2 : Int32) : Option am_M := (X8_readInto n σ a1 0 1).bind (fun q1 => (X8_word n q1 24).bind (fun q2 => (rE q2 (a2 + 1) a1).bind (fun q3 => if (40 + a1) < 0 ∨ 80 ≤ (40 + a1).toNatClampNeg then none else (X8_is n (sC q3.2 12 (upd (q3.2 12) (40 + a1).toNatClampNeg q3.1)) 25).bind (fun q5 => if q5 = true then (X8_stepOn n (sC q3.2 12 (upd (q3.2 12) (40 + a1).toNatClampNeg q3.1))).bind (fun q7 => (rE q7 (a2 + 1) a1).bind (fun q8 => if (40 + a1) < 0 ∨ 80 ≤ (40 + a1).toNatClampNeg then none else (X8_readBranches_J62 n rE (sC q8.2 13 (upd (q8.2 13) (40 + a1).toNatClampNeg q8.1))))) else (X8_readBranches_J62 n rE (sC q3.2 12 (upd (q3.2 12) (40 + a1).toNatClampNeg q3.1)))))))
set_option maxRecDepth 100000 in
set_option maxHeartbeats 4000000 in
theorem c_X8_readBranches (l : Launch) (n : Nat) (rE : am_M → Int32 → Int32 → Option (Int32 × am_M)) (dE : Nat) (hrE : ∀ (l : Launch) (σ : am_M) (a1 a2 : Int32) (res : Int32 × am_M), rE σ a1 a2 = some res → am_Con l yX8_readSteps cX8_readSteps 6 (some .int) dE [.ref 0, .int a1, .int a2] (wX8 σ) (fun (r : Option Value) (w : am_W) => r = (some (.int res.1)) ∧ w = (wX8 res.2))) (σ : am_M) (a1 : Int32) (a2 : Int32) (res : am_M) (h : X8_readBranches n rE σ a1 a2 = some res) : am_Con l yX8_readBranches cX8_readBranches 3 none (dE + 101) [.ref 0, .int a1, .int a2] (wX8 σ) (fun (r : Option Value) (w : am_W) => r = none ∧ w = (wX8 res)) := by
  refine am_metn (n0 := 36) (own := RX8) (cd := am_cdT' tX8_readBranches) (rf := am_rfL rfX8) (ini := false) rfl (by decide +kernel) rfl (by decide) dX8_readBranches rfX8_ok (Nat.le_of_ble_eq_true rfl) ?_
  intro V hV
  have hP : (fun (r : Option Value) (w : am_W) => r = none ∧ w = (wX8 res)) none (wX8 res) := ⟨rfl, rfl⟩
  show V (wX8 σ) 0 [(0, .ref 0), (1, .int a1), (2, .int a2)] []
  unfold X8_readBranches at h
  refine hV.run 4 [] (ws' := wX8 σ) (pc' := 4) (ls' := [(0, .ref 0), (1, .int a1), (2, .int a2)]) (st' := [.int 1, .int 0, .int a1, .ref 0]) (ps := []) rfl trivial ?_
  obtain ⟨q1, hq1, h⟩ := am_bind h
  refine hV.cOv (as := [.int a1, .int 0, .int 1]) (rest := []) (st := [.int 1, .int 0, .int a1, .ref 0]) (ws2 := wX8 q1) (pc2 := 7) kX8_280 (c_X8_readInto l n σ a1 0 1 q1 hq1) rfl rfl (am_bA (c := 100) (k := 101) (e := dE) (by decide)) rfl rfl rfl rfl rfl rfl ?_
  refine hV.run 1 [] (ws' := wX8 q1) (pc' := 8) (ls' := [(0, .ref 0), (1, .int a1), (2, .int a2)]) (st' := [.ref 0]) (ps := []) rfl trivial ?_
  refine hV.kSW 24 rfl rfl (by decide) ?_
  obtain ⟨q2, hq2, h⟩ := am_bind h
  refine hV.cOv (as := [.retAddr 24]) (rest := []) (st := [.retAddr 24, .ref 0]) (ws2 := wX8 q2) (pc2 := 14) kX8_286 (c_X8_word l n q1 24 q2 hq2) rfl rfl (am_bA (c := 6) (k := 101) (e := dE) (by decide)) rfl rfl rfl rfl rfl rfl ?_
  refine hV.run 10 [] (ws' := wX8 q2) (pc' := 27) (ls' := [(0, .ref 0), (1, .int a1), (2, .int a2)]) (st' := [.int a1, .int (a2 + 1), .ref 0, .int (40 + a1), .ref 12]) (ps := []) rfl trivial ?_
  obtain ⟨q3, hq3, h⟩ := am_bind h
  refine hV.cOi (as := [.int (a2 + 1), .int a1]) (rest := [.int (40 + a1), .ref 12]) (st := [.int a1, .int (a2 + 1), .ref 0, .int (40 + a1), .ref 12]) (ws2 := wX8 q3.2) (pc2 := 30) kX8_303 (hrE l q2 (a2 + 1) a1 q3 hq3) rfl rfl (am_bC (k := 101) (e := dE) (by decide)) rfl rfl rfl rfl rfl rfl ?_
  by_cases g4 : (40 + a1) < 0 ∨ 80 ≤ (40 + a1).toNatClampNeg
  · rw [if_pos g4] at h; cases h
  rw [if_neg g4] at h
  refine hV.run 2 [] (ws' := wX8 (sC q3.2 12 (upd (q3.2 12) (40 + a1).toNatClampNeg q3.1))) (pc' := 32) (ls' := [(0, .ref 0), (1, .int a1), (2, .int a2)]) (st' := [.ref 0]) (ps := [vp_in (40 + a1) 80]) rfl ⟨g4, trivial⟩ ?_
  refine hV.kSW 25 rfl rfl (by decide) ?_
  obtain ⟨q5, hq5, h⟩ := am_bind h
  refine hV.cOi (as := [.retAddr 25]) (rest := []) (st := [.retAddr 25, .ref 0]) (ws2 := wX8 (sC q3.2 12 (upd (q3.2 12) (40 + a1).toNatClampNeg q3.1))) (pc2 := 38) kX8_234 (c_X8_is l n (sC q3.2 12 (upd (q3.2 12) (40 + a1).toNatClampNeg q3.1)) 25 q5 hq5) rfl rfl (am_bA (c := 5) (k := 101) (e := dE) (by decide)) rfl rfl rfl rfl rfl rfl ?_
  by_cases c6 : q5 = true
  · rw [if_pos c6] at h
    refine hV.run 2 [0] (ws' := wX8 (sC q3.2 12 (upd (q3.2 12) (40 + a1).toNatClampNeg q3.1))) (pc' := 42) (ls' := [(0, .ref 0), (1, .int a1), (2, .int a2)]) (st' := [.ref 0]) (ps := [¬ (b2i q5) = 0]) rfl ⟨(b2i_t c6), trivial⟩ ?_
    obtain ⟨q7, hq7, h⟩ := am_bind h
    refine hV.cOv (as := []) (rest := []) (st := [.ref 0]) (ws2 := wX8 q7) (pc2 := 45) kX8_245 (c_X8_stepOn l n (sC q3.2 12 (upd (q3.2 12) (40 + a1).toNatClampNeg q3.1)) q7 hq7) rfl rfl (am_bA (c := 2) (k := 101) (e := dE) (by decide)) rfl rfl rfl rfl rfl rfl ?_
    refine hV.run 10 [] (ws' := wX8 q7) (pc' := 58) (ls' := [(0, .ref 0), (1, .int a1), (2, .int a2)]) (st' := [.int a1, .int (a2 + 1), .ref 0, .int (40 + a1), .ref 13]) (ps := []) rfl trivial ?_
    obtain ⟨q8, hq8, h⟩ := am_bind h
    refine hV.cOi (as := [.int (a2 + 1), .int a1]) (rest := [.int (40 + a1), .ref 13]) (st := [.int a1, .int (a2 + 1), .ref 0, .int (40 + a1), .ref 13]) (ws2 := wX8 q8.2) (pc2 := 61) kX8_303 (hrE l q7 (a2 + 1) a1 q8 hq8) rfl rfl (am_bC (k := 101) (e := dE) (by decide)) rfl rfl rfl rfl rfl rfl ?_
    by_cases g9 : (40 + a1) < 0 ∨ 80 ≤ (40 + a1).toNatClampNeg
    · rw [if_pos g9] at h; cases h
    rw [if_neg g9] at h
    refine hV.run 1 [] (ws' := wX8 (sC q8.2 13 (upd (q8.2 13) (40 + a1).toNatClampNeg q8.1))) (pc' := 62) (ls' := [(0, .ref 0), (1, .int a1), (2, .int a2)]) (st' := []) (ps := [vp_in (40 + a1) 80]) rfl ⟨g9, trivial⟩ ?_
    refine hV.pick [0] (ls' := [(0, .ref 0)]) rfl ?_
    exact p_X8_readBranches_J62 hV n rE hrE res hP (sC q8.2 13 (upd (q8.2 13) (40 + a1).toNatClampNeg q8.1)) h
  · rw [if_neg c6] at h
    refine hV.run 1 [1] (ws' := wX8 (sC q3.2 12 (upd (q3.2 12) (40 + a1).toNatClampNeg q3.1))) (pc' := 62) (ls' := [(0, .ref 0), (1, .int a1), (2, .int a2)]) (st' := []) (ps := [(b2i q5) = 0]) rfl ⟨(b2i_f c6), trivial⟩ ?_
    refine hV.pick [0] (ls' := [(0, .ref 0)]) rfl ?_
    exact p_X8_readBranches_J62 hV n rE hrE res hP (sC q3.2 12 (upd (q3.2 12) (40 + a1).toNatClampNeg q3.1)) h

def X8_readStep_J475 (n : Nat) (rE : am_M → Int32 → Int32 → Option (Int32 × am_M)) (σ : am_M) : Option am_M := (X8_need n σ 59).bind (fun q1 => some q1)
set_option maxRecDepth 100000 in
set_option maxHeartbeats 4000000 in
theorem p_X8_readStep_J475 {dE : Nat} {l : Launch} {Post : Option Value → am_W → Prop} {V : am_VT} (hV : am_B l RX8 false (dE + 102) (am_cdT' tX8_readStep) (am_rfL rfX8) none Post 36 V) (n : Nat) (rE : am_M → Int32 → Int32 → Option (Int32 × am_M)) (hrE : ∀ (l : Launch) (σ : am_M) (a1 a2 : Int32) (res : Int32 × am_M), rE σ a1 a2 = some res → am_Con l yX8_readSteps cX8_readSteps 6 (some .int) dE [.ref 0, .int a1, .int a2] (wX8 σ) (fun (r : Option Value) (w : am_W) => r = (some (.int res.1)) ∧ w = (wX8 res.2))) (res : am_M) (hP : Post none (wX8 res)) (σ : am_M) (h : X8_readStep_J475 n rE σ = some res) : V (wX8 σ) 475 [(0, .ref 0)] [] := by
  unfold X8_readStep_J475 at h
  refine hV.run 2 [] (ws' := wX8 σ) (pc' := 478) (ls' := [(0, .ref 0)]) (st' := [.int 59, .ref 0]) (ps := []) rfl trivial ?_
  obtain ⟨q1, hq1, h⟩ := am_bind h
  refine hV.cOv (as := [.int 59]) (rest := []) (st := [.int 59, .ref 0]) (ws2 := wX8 q1) (pc2 := 481) kX8_264 (c_X8_need l n σ 59 q1 hq1) rfl rfl (am_bA (c := 3) (k := 102) (e := dE) (by decide)) rfl rfl rfl rfl rfl rfl ?_
  cases h
  exact hV.rv rfl rfl rfl hP
def X8_readStep_J336 (n : Nat) (rE : am_M → Int32 → Int32 → Option (Int32 × am_M)) (σ : am_M) (l3 : Int32) : Option am_M := (X8_word n σ 19).bind (fun q1 => (X8_readInto n q1 l3 1 0).bind (fun q2 => (X8_word n q2 22).bind (fun q3 => (X8_readVar n q3).bind (fun q4 => if (40 + l3) < 0 ∨ 80 ≤ (40 + l3).toNatClampNeg then none else (X8_is n (sC q4.2 9 (upd (q4.2 9) (40 + l3).toNatClampNeg q4.1)) 23).bind (fun q6 => if q6 = true then (X8_stepOn n (sC q4.2 9 (upd (q4.2 9) (40 + l3).toNatClampNeg q4.1))).bind (fun q8 => (X8_readNumber n q8 1 99).bind (fun q9 => if (40 + l3) < 0 ∨ 80 ≤ (40 + l3).toNatClampNeg then none else (X8_readStep_J475 n rE (sC q9.2 10 (upd (q9.2 10) (40 + l3).toNatClampNeg q9.1))))) else (X8_readStep_J475 n rE (sC q4.2 9 (upd (q4.2 9) (40 + l3).toNatClampNeg q4.1))))))))
set_option maxRecDepth 100000 in
set_option maxHeartbeats 4000000 in
theorem p_X8_readStep_J336 {dE : Nat} {l : Launch} {Post : Option Value → am_W → Prop} {V : am_VT} (hV : am_B l RX8 false (dE + 102) (am_cdT' tX8_readStep) (am_rfL rfX8) none Post 36 V) (n : Nat) (rE : am_M → Int32 → Int32 → Option (Int32 × am_M)) (hrE : ∀ (l : Launch) (σ : am_M) (a1 a2 : Int32) (res : Int32 × am_M), rE σ a1 a2 = some res → am_Con l yX8_readSteps cX8_readSteps 6 (some .int) dE [.ref 0, .int a1, .int a2] (wX8 σ) (fun (r : Option Value) (w : am_W) => r = (some (.int res.1)) ∧ w = (wX8 res.2))) (res : am_M) (hP : Post none (wX8 res)) (σ : am_M) (l3 : Int32) (h : X8_readStep_J336 n rE σ l3 = some res) : V (wX8 σ) 336 [(0, .ref 0), (3, .int l3)] [] := by
  unfold X8_readStep_J336 at h
  refine hV.run 1 [] (ws' := wX8 σ) (pc' := 337) (ls' := [(0, .ref 0), (3, .int l3)]) (st' := [.ref 0]) (ps := []) rfl trivial ?_
  refine hV.kSW 19 rfl rfl (by decide) ?_
  obtain ⟨q1, hq1, h⟩ := am_bind h
  refine hV.cOv (as := [.retAddr 19]) (rest := []) (st := [.retAddr 19, .ref 0]) (ws2 := wX8 q1) (pc2 := 343) kX8_286 (c_X8_word l n σ 19 q1 hq1) rfl rfl (am_bA (c := 6) (k := 102) (e := dE) (by decide)) rfl rfl rfl rfl rfl rfl ?_
  refine hV.run 4 [] (ws' := wX8 q1) (pc' := 347) (ls' := [(0, .ref 0), (3, .int l3)]) (st' := [.int 0, .int 1, .int l3, .ref 0]) (ps := []) rfl trivial ?_
  obtain ⟨q2, hq2, h⟩ := am_bind h
  refine hV.cOv (as := [.int l3, .int 1, .int 0]) (rest := []) (st := [.int 0, .int 1, .int l3, .ref 0]) (ws2 := wX8 q2) (pc2 := 350) kX8_280 (c_X8_readInto l n q1 l3 1 0 q2 hq2) rfl rfl (am_bA (c := 100) (k := 102) (e := dE) (by decide)) rfl rfl rfl rfl rfl rfl ?_
  refine hV.run 1 [] (ws' := wX8 q2) (pc' := 351) (ls' := [(0, .ref 0), (3, .int l3)]) (st' := [.ref 0]) (ps := []) rfl trivial ?_
  refine hV.kSW 22 rfl rfl (by decide) ?_
  obtain ⟨q3, hq3, h⟩ := am_bind h
  refine hV.cOv (as := [.retAddr 22]) (rest := []) (st := [.retAddr 22, .ref 0]) (ws2 := wX8 q3) (pc2 := 357) kX8_286 (c_X8_word l n q2 22 q3 hq3) rfl rfl (am_bA (c := 6) (k := 102) (e := dE) (by decide)) rfl rfl rfl rfl rfl rfl ?_
  refine hV.run 6 [] (ws' := wX8 q3) (pc' := 366) (ls' := [(0, .ref 0), (3, .int l3)]) (st' := [.ref 0, .int (40 + l3), .ref 9]) (ps := []) rfl trivial ?_
  obtain ⟨q4, hq4, h⟩ := am_bind h
  refine hV.cOi (as := []) (rest := [.int (40 + l3), .ref 9]) (st := [.ref 0, .int (40 + l3), .ref 9]) (ws2 := wX8 q4.2) (pc2 := 369) kX8_294 (c_X8_readVar l n q3 q4 hq4) rfl rfl (am_bA (c := 7) (k := 102) (e := dE) (by decide)) rfl rfl rfl rfl rfl rfl ?_
  by_cases g5 : (40 + l3) < 0 ∨ 80 ≤ (40 + l3).toNatClampNeg
  · rw [if_pos g5] at h; cases h
  rw [if_neg g5] at h
  refine hV.run 2 [] (ws' := wX8 (sC q4.2 9 (upd (q4.2 9) (40 + l3).toNatClampNeg q4.1))) (pc' := 371) (ls' := [(0, .ref 0), (3, .int l3)]) (st' := [.ref 0]) (ps := [vp_in (40 + l3) 80]) rfl ⟨g5, trivial⟩ ?_
  refine hV.kSW 23 rfl rfl (by decide) ?_
  obtain ⟨q6, hq6, h⟩ := am_bind h
  refine hV.cOi (as := [.retAddr 23]) (rest := []) (st := [.retAddr 23, .ref 0]) (ws2 := wX8 (sC q4.2 9 (upd (q4.2 9) (40 + l3).toNatClampNeg q4.1))) (pc2 := 377) kX8_234 (c_X8_is l n (sC q4.2 9 (upd (q4.2 9) (40 + l3).toNatClampNeg q4.1)) 23 q6 hq6) rfl rfl (am_bA (c := 5) (k := 102) (e := dE) (by decide)) rfl rfl rfl rfl rfl rfl ?_
  by_cases c7 : q6 = true
  · rw [if_pos c7] at h
    refine hV.run 2 [0] (ws' := wX8 (sC q4.2 9 (upd (q4.2 9) (40 + l3).toNatClampNeg q4.1))) (pc' := 381) (ls' := [(0, .ref 0), (3, .int l3)]) (st' := [.ref 0]) (ps := [¬ (b2i q6) = 0]) rfl ⟨(b2i_t c7), trivial⟩ ?_
    obtain ⟨q8, hq8, h⟩ := am_bind h
    refine hV.cOv (as := []) (rest := []) (st := [.ref 0]) (ws2 := wX8 q8) (pc2 := 384) kX8_245 (c_X8_stepOn l n (sC q4.2 9 (upd (q4.2 9) (40 + l3).toNatClampNeg q4.1)) q8 hq8) rfl rfl (am_bA (c := 2) (k := 102) (e := dE) (by decide)) rfl rfl rfl rfl rfl rfl ?_
    refine hV.run 8 [] (ws' := wX8 q8) (pc' := 396) (ls' := [(0, .ref 0), (3, .int l3)]) (st' := [.int 99, .int 1, .ref 0, .int (40 + l3), .ref 10]) (ps := []) rfl trivial ?_
    obtain ⟨q9, hq9, h⟩ := am_bind h
    refine hV.cOi (as := [.int 1, .int 99]) (rest := [.int (40 + l3), .ref 10]) (st := [.int 99, .int 1, .ref 0, .int (40 + l3), .ref 10]) (ws2 := wX8 q9.2) (pc2 := 399) kX8_251 (c_X8_readNumber l n q8 1 99 q9 hq9) rfl rfl (am_bA (c := 3) (k := 102) (e := dE) (by decide)) rfl rfl rfl rfl rfl rfl ?_
    by_cases g10 : (40 + l3) < 0 ∨ 80 ≤ (40 + l3).toNatClampNeg
    · rw [if_pos g10] at h; cases h
    rw [if_neg g10] at h
    refine hV.run 2 [] (ws' := wX8 (sC q9.2 10 (upd (q9.2 10) (40 + l3).toNatClampNeg q9.1))) (pc' := 475) (ls' := [(0, .ref 0), (3, .int l3)]) (st' := []) (ps := [vp_in (40 + l3) 80]) rfl ⟨g10, trivial⟩ ?_
    refine hV.pick [0] (ls' := [(0, .ref 0)]) rfl ?_
    exact p_X8_readStep_J475 hV n rE hrE res hP (sC q9.2 10 (upd (q9.2 10) (40 + l3).toNatClampNeg q9.1)) h
  · rw [if_neg c7] at h
    refine hV.run 1 [1] (ws' := wX8 (sC q4.2 9 (upd (q4.2 9) (40 + l3).toNatClampNeg q4.1))) (pc' := 475) (ls' := [(0, .ref 0), (3, .int l3)]) (st' := []) (ps := [(b2i q6) = 0]) rfl ⟨(b2i_f c7), trivial⟩ ?_
    refine hV.pick [0] (ls' := [(0, .ref 0)]) rfl ?_
    exact p_X8_readStep_J475 hV n rE hrE res hP (sC q4.2 9 (upd (q4.2 9) (40 + l3).toNatClampNeg q4.1)) h
def X8_readStep_B152 (n : Nat) (rE : am_M → Int32 → Int32 → Option (Int32 × am_M)) (kont152 : am_M → Int32 → Int32 → Int32 → Int32 → Option am_M) (σ : am_M) (l1 : Int32) (l2 : Int32) (l3 : Int32) (l4 : Int32) : Option am_M := if 3 ≤ l4 then (X8_stepOn n σ).bind (fun q2 => if l2 = 0 then (X8_readInto n q2 l3 0 0).bind (fun q4 => (X8_word n q4 19).bind (fun q5 => (X8_readInto n q5 l3 1 0).bind (fun q6 => (X8_word n q6 20).bind (fun q7 => (X8_readInto n q7 l3 2 0).bind (fun q8 => (X8_is n q8 21).bind (fun q9 => if q9 = true then (X8_stepOn n q8).bind (fun q11 => (X8_readNumber n q11 1 99).bind (fun q12 => if (40 + l3) < 0 ∨ 80 ≤ (40 + l3).toNatClampNeg then none else (X8_readStep_J475 n rE (sC q12.2 10 (upd (q12.2 10) (40 + l3).toNatClampNeg q12.1))))) else (X8_readStep_J475 n rE q8))))))) else (if l2 = 1 then (X8_readInto n q2 l3 0 0).bind (fun q15 => (X8_word n q15 19).bind (fun q16 => (X8_readInto n q16 l3 1 0).bind (fun q17 => (X8_word n q17 20).bind (fun q18 => (X8_readInto n q18 l3 2 0).bind (fun q19 => (X8_is n q19 21).bind (fun q20 => if q20 = true then (X8_stepOn n q19).bind (fun q22 => (X8_readNumber n q22 1 99).bind (fun q23 => if (40 + l3) < 0 ∨ 80 ≤ (40 + l3).toNatClampNeg then none else (X8_readStep_J475 n rE (sC q23.2 10 (upd (q23.2 10) (40 + l3).toNatClampNeg q23.1))))) else (X8_readStep_J475 n rE q19))))))) else (if l2 = 2 then (X8_readInto n q2 l3 0 0).bind (fun q26 => (X8_word n q26 19).bind (fun q27 => (X8_readInto n q27 l3 1 0).bind (fun q28 => (X8_word n q28 20).bind (fun q29 => (X8_readInto n q29 l3 2 0).bind (fun q30 => (X8_is n q30 21).bind (fun q31 => if q31 = true then (X8_stepOn n q30).bind (fun q33 => (X8_readNumber n q33 1 99).bind (fun q34 => if (40 + l3) < 0 ∨ 80 ≤ (40 + l3).toNatClampNeg then none else (X8_readStep_J475 n rE (sC q34.2 10 (upd (q34.2 10) (40 + l3).toNatClampNeg q34.1))))) else (X8_readStep_J475 n rE q30))))))) else (if l2 = 3 then (if l2 = 3 then (X8_readInto n q2 l3 0 0).bind (fun q38 => X8_readStep_J336 n rE q38 l3) else (X8_readStep_J336 n rE q2 l3)) else (if l2 = 4 then (if l2 = 3 then (X8_readInto n q2 l3 0 0).bind (fun q41 => X8_readStep_J336 n rE q41 l3) else (X8_readStep_J336 n rE q2 l3)) else (if l2 = 5 then (X8_readStep_J475 n rE q2) else (if l2 = 6 then (X8_readStep_J475 n rE q2) else (if l2 = 7 then (X8_readInto n q2 l3 0 0).bind (fun q45 => (X8_word n q45 22).bind (fun q46 => (X8_readVar n q46).bind (fun q47 => if (40 + l3) < 0 ∨ 80 ≤ (40 + l3).toNatClampNeg then none else (X8_readStep_J475 n rE (sC q47.2 9 (upd (q47.2 9) (40 + l3).toNatClampNeg q47.1)))))) else (if l2 = 8 then (X8_readVar n q2).bind (fun q50 => if (40 + l3) < 0 ∨ 80 ≤ (40 + l3).toNatClampNeg then none else (X8_readInto n (sC q50.2 9 (upd (q50.2 9) (40 + l3).toNatClampNeg q50.1)) l3 0 1).bind (fun q52 => X8_readStep_J475 n rE q52)) else (if l2 = 9 then (X8_readInto n q2 l3 0 1).bind (fun q54 => X8_readStep_J475 n rE q54) else (if l2 = 10 then (X8_readBranches n rE q2 l3 l1).bind (fun q56 => X8_readStep_J475 n rE q56) else (X8_readStep_J475 n rE q2)))))))))))) else (if ((3 * (40 + l3)) + l4) < 0 ∨ 240 ≤ ((3 * (40 + l3)) + l4).toNatClampNeg then none else (if ((3 * (40 + l3)) + l4) < 0 ∨ 240 ≤ ((3 * (40 + l3)) + l4).toNatClampNeg then none else (kont152 (sC (sC σ 7 (upd (σ 7) ((3 * (40 + l3)) + l4).toNatClampNeg 0)) 8 (upd (σ 8) ((3 * (40 + l3)) + l4).toNatClampNeg 0)) l1 l2 l3 (l4 + 1))))
def X8_readStep_L152 (n : Nat) (rE : am_M → Int32 → Int32 → Option (Int32 × am_M)) : Nat → am_M → Int32 → Int32 → Int32 → Int32 → Option am_M
 | 0 => fun _ _ _ _ _ => none
 | k + 1 => fun σ l1 l2 l3 l4 => X8_readStep_B152 n rE (X8_readStep_L152 n rE k) σ l1 l2 l3 l4
set_option maxRecDepth 100000 in
set_option maxHeartbeats 4000000 in
theorem p_X8_readStep_B152 {dE : Nat} {l : Launch} {Post : Option Value → am_W → Prop} {V : am_VT} (hV : am_B l RX8 false (dE + 102) (am_cdT' tX8_readStep) (am_rfL rfX8) none Post 36 V) (n : Nat) (rE : am_M → Int32 → Int32 → Option (Int32 × am_M)) (hrE : ∀ (l : Launch) (σ : am_M) (a1 a2 : Int32) (res : Int32 × am_M), rE σ a1 a2 = some res → am_Con l yX8_readSteps cX8_readSteps 6 (some .int) dE [.ref 0, .int a1, .int a2] (wX8 σ) (fun (r : Option Value) (w : am_W) => r = (some (.int res.1)) ∧ w = (wX8 res.2))) (res : am_M) (hP : Post none (wX8 res)) (kont152 : am_M → Int32 → Int32 → Int32 → Int32 → Option am_M) (hk152 : ∀ (σ : am_M) (l1 : Int32) (l2 : Int32) (l3 : Int32) (l4 : Int32), kont152 σ l1 l2 l3 l4 = some res → V (wX8 σ) 152 [(0, .ref 0), (1, .int l1), (2, .int l2), (3, .int l3), (4, .int l4)] []) (σ : am_M) (l1 : Int32) (l2 : Int32) (l3 : Int32) (l4 : Int32) (h : X8_readStep_B152 n rE kont152 σ l1 l2 l3 l4 = some res) : V (wX8 σ) 152 [(0, .ref 0), (1, .int l1), (2, .int l2), (3, .int l3), (4, .int l4)] [] := by
  unfold X8_readStep_B152 at h
  by_cases c1 : 3 ≤ l4
  · rw [if_pos c1] at h
    refine hV.run 4 [1] (ws' := wX8 σ) (pc' := 195) (ls' := [(0, .ref 0), (1, .int l1), (2, .int l2), (3, .int l3), (4, .int l4)]) (st' := [.ref 0]) (ps := [3 ≤ l4]) rfl ⟨c1, trivial⟩ ?_
    obtain ⟨q2, hq2, h⟩ := am_bind h
    refine hV.cOv (as := []) (rest := []) (st := [.ref 0]) (ws2 := wX8 q2) (pc2 := 198) kX8_245 (c_X8_stepOn l n σ q2 hq2) rfl rfl (am_bA (c := 2) (k := 102) (e := dE) (by decide)) rfl rfl rfl rfl rfl rfl ?_
    by_cases c3 : l2 = 0
    · rw [if_pos c3] at h
      refine hV.run 6 [1] (ws' := wX8 q2) (pc' := 260) (ls' := [(0, .ref 0), (1, .int l1), (2, .int l2), (3, .int l3), (4, .int l4)]) (st' := [.int 0, .int 0, .int l3, .ref 0]) (ps := [l2.toInt = 0 + ((0 : Nat) : Int), 0 < 11, ¬ 10 < l2.toInt]) rfl ⟨(by rw [c3]; decide), (by decide), (by rw [c3]; decide), trivial⟩ ?_
      obtain ⟨q4, hq4, h⟩ := am_bind h
      refine hV.cOv (as := [.int l3, .int 0, .int 0]) (rest := []) (st := [.int 0, .int 0, .int l3, .ref 0]) (ws2 := wX8 q4) (pc2 := 263) kX8_280 (c_X8_readInto l n q2 l3 0 0 q4 hq4) rfl rfl (am_bA (c := 100) (k := 102) (e := dE) (by decide)) rfl rfl rfl rfl rfl rfl ?_
      refine hV.run 1 [] (ws' := wX8 q4) (pc' := 264) (ls' := [(0, .ref 0), (1, .int l1), (2, .int l2), (3, .int l3), (4, .int l4)]) (st' := [.ref 0]) (ps := []) rfl trivial ?_
      refine hV.kSW 19 rfl rfl (by decide) ?_
      obtain ⟨q5, hq5, h⟩ := am_bind h
      refine hV.cOv (as := [.retAddr 19]) (rest := []) (st := [.retAddr 19, .ref 0]) (ws2 := wX8 q5) (pc2 := 270) kX8_286 (c_X8_word l n q4 19 q5 hq5) rfl rfl (am_bA (c := 6) (k := 102) (e := dE) (by decide)) rfl rfl rfl rfl rfl rfl ?_
      refine hV.run 4 [] (ws' := wX8 q5) (pc' := 274) (ls' := [(0, .ref 0), (1, .int l1), (2, .int l2), (3, .int l3), (4, .int l4)]) (st' := [.int 0, .int 1, .int l3, .ref 0]) (ps := []) rfl trivial ?_
      obtain ⟨q6, hq6, h⟩ := am_bind h
      refine hV.cOv (as := [.int l3, .int 1, .int 0]) (rest := []) (st := [.int 0, .int 1, .int l3, .ref 0]) (ws2 := wX8 q6) (pc2 := 277) kX8_280 (c_X8_readInto l n q5 l3 1 0 q6 hq6) rfl rfl (am_bA (c := 100) (k := 102) (e := dE) (by decide)) rfl rfl rfl rfl rfl rfl ?_
      refine hV.run 1 [] (ws' := wX8 q6) (pc' := 278) (ls' := [(0, .ref 0), (1, .int l1), (2, .int l2), (3, .int l3), (4, .int l4)]) (st' := [.ref 0]) (ps := []) rfl trivial ?_
      refine hV.kSW 20 rfl rfl (by decide) ?_
      obtain ⟨q7, hq7, h⟩ := am_bind h
      refine hV.cOv (as := [.retAddr 20]) (rest := []) (st := [.retAddr 20, .ref 0]) (ws2 := wX8 q7) (pc2 := 284) kX8_286 (c_X8_word l n q6 20 q7 hq7) rfl rfl (am_bA (c := 6) (k := 102) (e := dE) (by decide)) rfl rfl rfl rfl rfl rfl ?_
      refine hV.run 4 [] (ws' := wX8 q7) (pc' := 288) (ls' := [(0, .ref 0), (1, .int l1), (2, .int l2), (3, .int l3), (4, .int l4)]) (st' := [.int 0, .int 2, .int l3, .ref 0]) (ps := []) rfl trivial ?_
      obtain ⟨q8, hq8, h⟩ := am_bind h
      refine hV.cOv (as := [.int l3, .int 2, .int 0]) (rest := []) (st := [.int 0, .int 2, .int l3, .ref 0]) (ws2 := wX8 q8) (pc2 := 291) kX8_280 (c_X8_readInto l n q7 l3 2 0 q8 hq8) rfl rfl (am_bA (c := 100) (k := 102) (e := dE) (by decide)) rfl rfl rfl rfl rfl rfl ?_
      refine hV.run 1 [] (ws' := wX8 q8) (pc' := 292) (ls' := [(0, .ref 0), (1, .int l1), (2, .int l2), (3, .int l3), (4, .int l4)]) (st' := [.ref 0]) (ps := []) rfl trivial ?_
      refine hV.kSW 21 rfl rfl (by decide) ?_
      obtain ⟨q9, hq9, h⟩ := am_bind h
      refine hV.cOi (as := [.retAddr 21]) (rest := []) (st := [.retAddr 21, .ref 0]) (ws2 := wX8 q8) (pc2 := 298) kX8_234 (c_X8_is l n q8 21 q9 hq9) rfl rfl (am_bA (c := 5) (k := 102) (e := dE) (by decide)) rfl rfl rfl rfl rfl rfl ?_
      by_cases c10 : q9 = true
      · rw [if_pos c10] at h
        refine hV.run 2 [0] (ws' := wX8 q8) (pc' := 302) (ls' := [(0, .ref 0), (1, .int l1), (2, .int l2), (3, .int l3), (4, .int l4)]) (st' := [.ref 0]) (ps := [¬ (b2i q9) = 0]) rfl ⟨(b2i_t c10), trivial⟩ ?_
        obtain ⟨q11, hq11, h⟩ := am_bind h
        refine hV.cOv (as := []) (rest := []) (st := [.ref 0]) (ws2 := wX8 q11) (pc2 := 305) kX8_245 (c_X8_stepOn l n q8 q11 hq11) rfl rfl (am_bA (c := 2) (k := 102) (e := dE) (by decide)) rfl rfl rfl rfl rfl rfl ?_
        refine hV.run 8 [] (ws' := wX8 q11) (pc' := 317) (ls' := [(0, .ref 0), (1, .int l1), (2, .int l2), (3, .int l3), (4, .int l4)]) (st' := [.int 99, .int 1, .ref 0, .int (40 + l3), .ref 10]) (ps := []) rfl trivial ?_
        obtain ⟨q12, hq12, h⟩ := am_bind h
        refine hV.cOi (as := [.int 1, .int 99]) (rest := [.int (40 + l3), .ref 10]) (st := [.int 99, .int 1, .ref 0, .int (40 + l3), .ref 10]) (ws2 := wX8 q12.2) (pc2 := 320) kX8_251 (c_X8_readNumber l n q11 1 99 q12 hq12) rfl rfl (am_bA (c := 3) (k := 102) (e := dE) (by decide)) rfl rfl rfl rfl rfl rfl ?_
        by_cases g13 : (40 + l3) < 0 ∨ 80 ≤ (40 + l3).toNatClampNeg
        · rw [if_pos g13] at h; cases h
        rw [if_neg g13] at h
        refine hV.run 2 [] (ws' := wX8 (sC q12.2 10 (upd (q12.2 10) (40 + l3).toNatClampNeg q12.1))) (pc' := 475) (ls' := [(0, .ref 0), (1, .int l1), (2, .int l2), (3, .int l3), (4, .int l4)]) (st' := []) (ps := [vp_in (40 + l3) 80]) rfl ⟨g13, trivial⟩ ?_
        refine hV.pick [0] (ls' := [(0, .ref 0)]) rfl ?_
        exact p_X8_readStep_J475 hV n rE hrE res hP (sC q12.2 10 (upd (q12.2 10) (40 + l3).toNatClampNeg q12.1)) h
      · rw [if_neg c10] at h
        refine hV.run 1 [1] (ws' := wX8 q8) (pc' := 475) (ls' := [(0, .ref 0), (1, .int l1), (2, .int l2), (3, .int l3), (4, .int l4)]) (st' := []) (ps := [(b2i q9) = 0]) rfl ⟨(b2i_f c10), trivial⟩ ?_
        refine hV.pick [0] (ls' := [(0, .ref 0)]) rfl ?_
        exact p_X8_readStep_J475 hV n rE hrE res hP q8 h
    · rw [if_neg c3] at h
      by_cases c14 : l2 = 1
      · rw [if_pos c14] at h
        refine hV.run 6 [2] (ws' := wX8 q2) (pc' := 260) (ls' := [(0, .ref 0), (1, .int l1), (2, .int l2), (3, .int l3), (4, .int l4)]) (st' := [.int 0, .int 0, .int l3, .ref 0]) (ps := [l2.toInt = 0 + ((1 : Nat) : Int), 1 < 11, ¬ 10 < l2.toInt]) rfl ⟨(by rw [c14]; decide), (by decide), (by rw [c14]; decide), trivial⟩ ?_
        obtain ⟨q15, hq15, h⟩ := am_bind h
        refine hV.cOv (as := [.int l3, .int 0, .int 0]) (rest := []) (st := [.int 0, .int 0, .int l3, .ref 0]) (ws2 := wX8 q15) (pc2 := 263) kX8_280 (c_X8_readInto l n q2 l3 0 0 q15 hq15) rfl rfl (am_bA (c := 100) (k := 102) (e := dE) (by decide)) rfl rfl rfl rfl rfl rfl ?_
        refine hV.run 1 [] (ws' := wX8 q15) (pc' := 264) (ls' := [(0, .ref 0), (1, .int l1), (2, .int l2), (3, .int l3), (4, .int l4)]) (st' := [.ref 0]) (ps := []) rfl trivial ?_
        refine hV.kSW 19 rfl rfl (by decide) ?_
        obtain ⟨q16, hq16, h⟩ := am_bind h
        refine hV.cOv (as := [.retAddr 19]) (rest := []) (st := [.retAddr 19, .ref 0]) (ws2 := wX8 q16) (pc2 := 270) kX8_286 (c_X8_word l n q15 19 q16 hq16) rfl rfl (am_bA (c := 6) (k := 102) (e := dE) (by decide)) rfl rfl rfl rfl rfl rfl ?_
        refine hV.run 4 [] (ws' := wX8 q16) (pc' := 274) (ls' := [(0, .ref 0), (1, .int l1), (2, .int l2), (3, .int l3), (4, .int l4)]) (st' := [.int 0, .int 1, .int l3, .ref 0]) (ps := []) rfl trivial ?_
        obtain ⟨q17, hq17, h⟩ := am_bind h
        refine hV.cOv (as := [.int l3, .int 1, .int 0]) (rest := []) (st := [.int 0, .int 1, .int l3, .ref 0]) (ws2 := wX8 q17) (pc2 := 277) kX8_280 (c_X8_readInto l n q16 l3 1 0 q17 hq17) rfl rfl (am_bA (c := 100) (k := 102) (e := dE) (by decide)) rfl rfl rfl rfl rfl rfl ?_
        refine hV.run 1 [] (ws' := wX8 q17) (pc' := 278) (ls' := [(0, .ref 0), (1, .int l1), (2, .int l2), (3, .int l3), (4, .int l4)]) (st' := [.ref 0]) (ps := []) rfl trivial ?_
        refine hV.kSW 20 rfl rfl (by decide) ?_
        obtain ⟨q18, hq18, h⟩ := am_bind h
        refine hV.cOv (as := [.retAddr 20]) (rest := []) (st := [.retAddr 20, .ref 0]) (ws2 := wX8 q18) (pc2 := 284) kX8_286 (c_X8_word l n q17 20 q18 hq18) rfl rfl (am_bA (c := 6) (k := 102) (e := dE) (by decide)) rfl rfl rfl rfl rfl rfl ?_
        refine hV.run 4 [] (ws' := wX8 q18) (pc' := 288) (ls' := [(0, .ref 0), (1, .int l1), (2, .int l2), (3, .int l3), (4, .int l4)]) (st' := [.int 0, .int 2, .int l3, .ref 0]) (ps := []) rfl trivial ?_
        obtain ⟨q19, hq19, h⟩ := am_bind h
        refine hV.cOv (as := [.int l3, .int 2, .int 0]) (rest := []) (st := [.int 0, .int 2, .int l3, .ref 0]) (ws2 := wX8 q19) (pc2 := 291) kX8_280 (c_X8_readInto l n q18 l3 2 0 q19 hq19) rfl rfl (am_bA (c := 100) (k := 102) (e := dE) (by decide)) rfl rfl rfl rfl rfl rfl ?_
        refine hV.run 1 [] (ws' := wX8 q19) (pc' := 292) (ls' := [(0, .ref 0), (1, .int l1), (2, .int l2), (3, .int l3), (4, .int l4)]) (st' := [.ref 0]) (ps := []) rfl trivial ?_
        refine hV.kSW 21 rfl rfl (by decide) ?_
        obtain ⟨q20, hq20, h⟩ := am_bind h
        refine hV.cOi (as := [.retAddr 21]) (rest := []) (st := [.retAddr 21, .ref 0]) (ws2 := wX8 q19) (pc2 := 298) kX8_234 (c_X8_is l n q19 21 q20 hq20) rfl rfl (am_bA (c := 5) (k := 102) (e := dE) (by decide)) rfl rfl rfl rfl rfl rfl ?_
        by_cases c21 : q20 = true
        · rw [if_pos c21] at h
          refine hV.run 2 [0] (ws' := wX8 q19) (pc' := 302) (ls' := [(0, .ref 0), (1, .int l1), (2, .int l2), (3, .int l3), (4, .int l4)]) (st' := [.ref 0]) (ps := [¬ (b2i q20) = 0]) rfl ⟨(b2i_t c21), trivial⟩ ?_
          obtain ⟨q22, hq22, h⟩ := am_bind h
          refine hV.cOv (as := []) (rest := []) (st := [.ref 0]) (ws2 := wX8 q22) (pc2 := 305) kX8_245 (c_X8_stepOn l n q19 q22 hq22) rfl rfl (am_bA (c := 2) (k := 102) (e := dE) (by decide)) rfl rfl rfl rfl rfl rfl ?_
          refine hV.run 8 [] (ws' := wX8 q22) (pc' := 317) (ls' := [(0, .ref 0), (1, .int l1), (2, .int l2), (3, .int l3), (4, .int l4)]) (st' := [.int 99, .int 1, .ref 0, .int (40 + l3), .ref 10]) (ps := []) rfl trivial ?_
          obtain ⟨q23, hq23, h⟩ := am_bind h
          refine hV.cOi (as := [.int 1, .int 99]) (rest := [.int (40 + l3), .ref 10]) (st := [.int 99, .int 1, .ref 0, .int (40 + l3), .ref 10]) (ws2 := wX8 q23.2) (pc2 := 320) kX8_251 (c_X8_readNumber l n q22 1 99 q23 hq23) rfl rfl (am_bA (c := 3) (k := 102) (e := dE) (by decide)) rfl rfl rfl rfl rfl rfl ?_
          by_cases g24 : (40 + l3) < 0 ∨ 80 ≤ (40 + l3).toNatClampNeg
          · rw [if_pos g24] at h; cases h
          rw [if_neg g24] at h
          refine hV.run 2 [] (ws' := wX8 (sC q23.2 10 (upd (q23.2 10) (40 + l3).toNatClampNeg q23.1))) (pc' := 475) (ls' := [(0, .ref 0), (1, .int l1), (2, .int l2), (3, .int l3), (4, .int l4)]) (st' := []) (ps := [vp_in (40 + l3) 80]) rfl ⟨g24, trivial⟩ ?_
          refine hV.pick [0] (ls' := [(0, .ref 0)]) rfl ?_
          exact p_X8_readStep_J475 hV n rE hrE res hP (sC q23.2 10 (upd (q23.2 10) (40 + l3).toNatClampNeg q23.1)) h
        · rw [if_neg c21] at h
          refine hV.run 1 [1] (ws' := wX8 q19) (pc' := 475) (ls' := [(0, .ref 0), (1, .int l1), (2, .int l2), (3, .int l3), (4, .int l4)]) (st' := []) (ps := [(b2i q20) = 0]) rfl ⟨(b2i_f c21), trivial⟩ ?_
          refine hV.pick [0] (ls' := [(0, .ref 0)]) rfl ?_
          exact p_X8_readStep_J475 hV n rE hrE res hP q19 h
      · rw [if_neg c14] at h
        by_cases c25 : l2 = 2
        · rw [if_pos c25] at h
          refine hV.run 6 [3] (ws' := wX8 q2) (pc' := 260) (ls' := [(0, .ref 0), (1, .int l1), (2, .int l2), (3, .int l3), (4, .int l4)]) (st' := [.int 0, .int 0, .int l3, .ref 0]) (ps := [l2.toInt = 0 + ((2 : Nat) : Int), 2 < 11, ¬ 10 < l2.toInt]) rfl ⟨(by rw [c25]; decide), (by decide), (by rw [c25]; decide), trivial⟩ ?_
          obtain ⟨q26, hq26, h⟩ := am_bind h
          refine hV.cOv (as := [.int l3, .int 0, .int 0]) (rest := []) (st := [.int 0, .int 0, .int l3, .ref 0]) (ws2 := wX8 q26) (pc2 := 263) kX8_280 (c_X8_readInto l n q2 l3 0 0 q26 hq26) rfl rfl (am_bA (c := 100) (k := 102) (e := dE) (by decide)) rfl rfl rfl rfl rfl rfl ?_
          refine hV.run 1 [] (ws' := wX8 q26) (pc' := 264) (ls' := [(0, .ref 0), (1, .int l1), (2, .int l2), (3, .int l3), (4, .int l4)]) (st' := [.ref 0]) (ps := []) rfl trivial ?_
          refine hV.kSW 19 rfl rfl (by decide) ?_
          obtain ⟨q27, hq27, h⟩ := am_bind h
          refine hV.cOv (as := [.retAddr 19]) (rest := []) (st := [.retAddr 19, .ref 0]) (ws2 := wX8 q27) (pc2 := 270) kX8_286 (c_X8_word l n q26 19 q27 hq27) rfl rfl (am_bA (c := 6) (k := 102) (e := dE) (by decide)) rfl rfl rfl rfl rfl rfl ?_
          refine hV.run 4 [] (ws' := wX8 q27) (pc' := 274) (ls' := [(0, .ref 0), (1, .int l1), (2, .int l2), (3, .int l3), (4, .int l4)]) (st' := [.int 0, .int 1, .int l3, .ref 0]) (ps := []) rfl trivial ?_
          obtain ⟨q28, hq28, h⟩ := am_bind h
          refine hV.cOv (as := [.int l3, .int 1, .int 0]) (rest := []) (st := [.int 0, .int 1, .int l3, .ref 0]) (ws2 := wX8 q28) (pc2 := 277) kX8_280 (c_X8_readInto l n q27 l3 1 0 q28 hq28) rfl rfl (am_bA (c := 100) (k := 102) (e := dE) (by decide)) rfl rfl rfl rfl rfl rfl ?_
          refine hV.run 1 [] (ws' := wX8 q28) (pc' := 278) (ls' := [(0, .ref 0), (1, .int l1), (2, .int l2), (3, .int l3), (4, .int l4)]) (st' := [.ref 0]) (ps := []) rfl trivial ?_
          refine hV.kSW 20 rfl rfl (by decide) ?_
          obtain ⟨q29, hq29, h⟩ := am_bind h
          refine hV.cOv (as := [.retAddr 20]) (rest := []) (st := [.retAddr 20, .ref 0]) (ws2 := wX8 q29) (pc2 := 284) kX8_286 (c_X8_word l n q28 20 q29 hq29) rfl rfl (am_bA (c := 6) (k := 102) (e := dE) (by decide)) rfl rfl rfl rfl rfl rfl ?_
          refine hV.run 4 [] (ws' := wX8 q29) (pc' := 288) (ls' := [(0, .ref 0), (1, .int l1), (2, .int l2), (3, .int l3), (4, .int l4)]) (st' := [.int 0, .int 2, .int l3, .ref 0]) (ps := []) rfl trivial ?_
          obtain ⟨q30, hq30, h⟩ := am_bind h
          refine hV.cOv (as := [.int l3, .int 2, .int 0]) (rest := []) (st := [.int 0, .int 2, .int l3, .ref 0]) (ws2 := wX8 q30) (pc2 := 291) kX8_280 (c_X8_readInto l n q29 l3 2 0 q30 hq30) rfl rfl (am_bA (c := 100) (k := 102) (e := dE) (by decide)) rfl rfl rfl rfl rfl rfl ?_
          refine hV.run 1 [] (ws' := wX8 q30) (pc' := 292) (ls' := [(0, .ref 0), (1, .int l1), (2, .int l2), (3, .int l3), (4, .int l4)]) (st' := [.ref 0]) (ps := []) rfl trivial ?_
          refine hV.kSW 21 rfl rfl (by decide) ?_
          obtain ⟨q31, hq31, h⟩ := am_bind h
          refine hV.cOi (as := [.retAddr 21]) (rest := []) (st := [.retAddr 21, .ref 0]) (ws2 := wX8 q30) (pc2 := 298) kX8_234 (c_X8_is l n q30 21 q31 hq31) rfl rfl (am_bA (c := 5) (k := 102) (e := dE) (by decide)) rfl rfl rfl rfl rfl rfl ?_
          by_cases c32 : q31 = true
          · rw [if_pos c32] at h
            refine hV.run 2 [0] (ws' := wX8 q30) (pc' := 302) (ls' := [(0, .ref 0), (1, .int l1), (2, .int l2), (3, .int l3), (4, .int l4)]) (st' := [.ref 0]) (ps := [¬ (b2i q31) = 0]) rfl ⟨(b2i_t c32), trivial⟩ ?_
            obtain ⟨q33, hq33, h⟩ := am_bind h
            refine hV.cOv (as := []) (rest := []) (st := [.ref 0]) (ws2 := wX8 q33) (pc2 := 305) kX8_245 (c_X8_stepOn l n q30 q33 hq33) rfl rfl (am_bA (c := 2) (k := 102) (e := dE) (by decide)) rfl rfl rfl rfl rfl rfl ?_
            refine hV.run 8 [] (ws' := wX8 q33) (pc' := 317) (ls' := [(0, .ref 0), (1, .int l1), (2, .int l2), (3, .int l3), (4, .int l4)]) (st' := [.int 99, .int 1, .ref 0, .int (40 + l3), .ref 10]) (ps := []) rfl trivial ?_
            obtain ⟨q34, hq34, h⟩ := am_bind h
            refine hV.cOi (as := [.int 1, .int 99]) (rest := [.int (40 + l3), .ref 10]) (st := [.int 99, .int 1, .ref 0, .int (40 + l3), .ref 10]) (ws2 := wX8 q34.2) (pc2 := 320) kX8_251 (c_X8_readNumber l n q33 1 99 q34 hq34) rfl rfl (am_bA (c := 3) (k := 102) (e := dE) (by decide)) rfl rfl rfl rfl rfl rfl ?_
            by_cases g35 : (40 + l3) < 0 ∨ 80 ≤ (40 + l3).toNatClampNeg
            · rw [if_pos g35] at h; cases h
            rw [if_neg g35] at h
            refine hV.run 2 [] (ws' := wX8 (sC q34.2 10 (upd (q34.2 10) (40 + l3).toNatClampNeg q34.1))) (pc' := 475) (ls' := [(0, .ref 0), (1, .int l1), (2, .int l2), (3, .int l3), (4, .int l4)]) (st' := []) (ps := [vp_in (40 + l3) 80]) rfl ⟨g35, trivial⟩ ?_
            refine hV.pick [0] (ls' := [(0, .ref 0)]) rfl ?_
            exact p_X8_readStep_J475 hV n rE hrE res hP (sC q34.2 10 (upd (q34.2 10) (40 + l3).toNatClampNeg q34.1)) h
          · rw [if_neg c32] at h
            refine hV.run 1 [1] (ws' := wX8 q30) (pc' := 475) (ls' := [(0, .ref 0), (1, .int l1), (2, .int l2), (3, .int l3), (4, .int l4)]) (st' := []) (ps := [(b2i q31) = 0]) rfl ⟨(b2i_f c32), trivial⟩ ?_
            refine hV.pick [0] (ls' := [(0, .ref 0)]) rfl ?_
            exact p_X8_readStep_J475 hV n rE hrE res hP q30 h
        · rw [if_neg c25] at h
          by_cases c36 : l2 = 3
          · rw [if_pos c36] at h
            by_cases c37 : l2 = 3
            · rw [if_pos c37] at h
              refine hV.run 9 [4, 0] (ws' := wX8 q2) (pc' := 333) (ls' := [(0, .ref 0), (1, .int l1), (2, .int l2), (3, .int l3), (4, .int l4)]) (st' := [.int 0, .int 0, .int l3, .ref 0]) (ps := [l2.toInt = 0 + ((3 : Nat) : Int), 3 < 11, ¬ 10 < l2.toInt, l2 = 3]) rfl ⟨(by rw [c36]; decide), (by decide), (by rw [c36]; decide), c37, trivial⟩ ?_
              obtain ⟨q38, hq38, h⟩ := am_bind h
              refine hV.cOv (as := [.int l3, .int 0, .int 0]) (rest := []) (st := [.int 0, .int 0, .int l3, .ref 0]) (ws2 := wX8 q38) (pc2 := 336) kX8_280 (c_X8_readInto l n q2 l3 0 0 q38 hq38) rfl rfl (am_bA (c := 100) (k := 102) (e := dE) (by decide)) rfl rfl rfl rfl rfl rfl ?_
              refine hV.pick [0, 3] (ls' := [(0, .ref 0), (3, .int l3)]) rfl ?_
              exact p_X8_readStep_J336 hV n rE hrE res hP q38 l3 h
            · rw [if_neg c37] at h
              refine hV.run 5 [4, 1] (ws' := wX8 q2) (pc' := 336) (ls' := [(0, .ref 0), (1, .int l1), (2, .int l2), (3, .int l3), (4, .int l4)]) (st' := []) (ps := [l2.toInt = 0 + ((3 : Nat) : Int), 3 < 11, ¬ 10 < l2.toInt, ¬ l2 = 3]) rfl ⟨(by rw [c36]; decide), (by decide), (by rw [c36]; decide), c37, trivial⟩ ?_
              refine hV.pick [0, 3] (ls' := [(0, .ref 0), (3, .int l3)]) rfl ?_
              exact p_X8_readStep_J336 hV n rE hrE res hP q2 l3 h
          · rw [if_neg c36] at h
            by_cases c39 : l2 = 4
            · rw [if_pos c39] at h
              by_cases c40 : l2 = 3
              · rw [if_pos c40] at h
                refine hV.run 9 [5, 0] (ws' := wX8 q2) (pc' := 333) (ls' := [(0, .ref 0), (1, .int l1), (2, .int l2), (3, .int l3), (4, .int l4)]) (st' := [.int 0, .int 0, .int l3, .ref 0]) (ps := [l2.toInt = 0 + ((4 : Nat) : Int), 4 < 11, ¬ 10 < l2.toInt, l2 = 3]) rfl ⟨(by rw [c39]; decide), (by decide), (by rw [c39]; decide), c40, trivial⟩ ?_
                obtain ⟨q41, hq41, h⟩ := am_bind h
                refine hV.cOv (as := [.int l3, .int 0, .int 0]) (rest := []) (st := [.int 0, .int 0, .int l3, .ref 0]) (ws2 := wX8 q41) (pc2 := 336) kX8_280 (c_X8_readInto l n q2 l3 0 0 q41 hq41) rfl rfl (am_bA (c := 100) (k := 102) (e := dE) (by decide)) rfl rfl rfl rfl rfl rfl ?_
                refine hV.pick [0, 3] (ls' := [(0, .ref 0), (3, .int l3)]) rfl ?_
                exact p_X8_readStep_J336 hV n rE hrE res hP q41 l3 h
              · rw [if_neg c40] at h
                refine hV.run 5 [5, 1] (ws' := wX8 q2) (pc' := 336) (ls' := [(0, .ref 0), (1, .int l1), (2, .int l2), (3, .int l3), (4, .int l4)]) (st' := []) (ps := [l2.toInt = 0 + ((4 : Nat) : Int), 4 < 11, ¬ 10 < l2.toInt, ¬ l2 = 3]) rfl ⟨(by rw [c39]; decide), (by decide), (by rw [c39]; decide), c40, trivial⟩ ?_
                refine hV.pick [0, 3] (ls' := [(0, .ref 0), (3, .int l3)]) rfl ?_
                exact p_X8_readStep_J336 hV n rE hrE res hP q2 l3 h
            · rw [if_neg c39] at h
              by_cases c42 : l2 = 5
              · rw [if_pos c42] at h
                refine hV.run 2 [6] (ws' := wX8 q2) (pc' := 475) (ls' := [(0, .ref 0), (1, .int l1), (2, .int l2), (3, .int l3), (4, .int l4)]) (st' := []) (ps := [l2.toInt = 0 + ((5 : Nat) : Int), 5 < 11, ¬ 10 < l2.toInt]) rfl ⟨(by rw [c42]; decide), (by decide), (by rw [c42]; decide), trivial⟩ ?_
                refine hV.pick [0] (ls' := [(0, .ref 0)]) rfl ?_
                exact p_X8_readStep_J475 hV n rE hrE res hP q2 h
              · rw [if_neg c42] at h
                by_cases c43 : l2 = 6
                · rw [if_pos c43] at h
                  refine hV.run 2 [7] (ws' := wX8 q2) (pc' := 475) (ls' := [(0, .ref 0), (1, .int l1), (2, .int l2), (3, .int l3), (4, .int l4)]) (st' := []) (ps := [l2.toInt = 0 + ((6 : Nat) : Int), 6 < 11, ¬ 10 < l2.toInt]) rfl ⟨(by rw [c43]; decide), (by decide), (by rw [c43]; decide), trivial⟩ ?_
                  refine hV.pick [0] (ls' := [(0, .ref 0)]) rfl ?_
                  exact p_X8_readStep_J475 hV n rE hrE res hP q2 h
                · rw [if_neg c43] at h
                  by_cases c44 : l2 = 7
                  · rw [if_pos c44] at h
                    refine hV.run 6 [8] (ws' := wX8 q2) (pc' := 407) (ls' := [(0, .ref 0), (1, .int l1), (2, .int l2), (3, .int l3), (4, .int l4)]) (st' := [.int 0, .int 0, .int l3, .ref 0]) (ps := [l2.toInt = 0 + ((7 : Nat) : Int), 7 < 11, ¬ 10 < l2.toInt]) rfl ⟨(by rw [c44]; decide), (by decide), (by rw [c44]; decide), trivial⟩ ?_
                    obtain ⟨q45, hq45, h⟩ := am_bind h
                    refine hV.cOv (as := [.int l3, .int 0, .int 0]) (rest := []) (st := [.int 0, .int 0, .int l3, .ref 0]) (ws2 := wX8 q45) (pc2 := 410) kX8_280 (c_X8_readInto l n q2 l3 0 0 q45 hq45) rfl rfl (am_bA (c := 100) (k := 102) (e := dE) (by decide)) rfl rfl rfl rfl rfl rfl ?_
                    refine hV.run 1 [] (ws' := wX8 q45) (pc' := 411) (ls' := [(0, .ref 0), (1, .int l1), (2, .int l2), (3, .int l3), (4, .int l4)]) (st' := [.ref 0]) (ps := []) rfl trivial ?_
                    refine hV.kSW 22 rfl rfl (by decide) ?_
                    obtain ⟨q46, hq46, h⟩ := am_bind h
                    refine hV.cOv (as := [.retAddr 22]) (rest := []) (st := [.retAddr 22, .ref 0]) (ws2 := wX8 q46) (pc2 := 417) kX8_286 (c_X8_word l n q45 22 q46 hq46) rfl rfl (am_bA (c := 6) (k := 102) (e := dE) (by decide)) rfl rfl rfl rfl rfl rfl ?_
                    refine hV.run 6 [] (ws' := wX8 q46) (pc' := 426) (ls' := [(0, .ref 0), (1, .int l1), (2, .int l2), (3, .int l3), (4, .int l4)]) (st' := [.ref 0, .int (40 + l3), .ref 9]) (ps := []) rfl trivial ?_
                    obtain ⟨q47, hq47, h⟩ := am_bind h
                    refine hV.cOi (as := []) (rest := [.int (40 + l3), .ref 9]) (st := [.ref 0, .int (40 + l3), .ref 9]) (ws2 := wX8 q47.2) (pc2 := 429) kX8_294 (c_X8_readVar l n q46 q47 hq47) rfl rfl (am_bA (c := 7) (k := 102) (e := dE) (by decide)) rfl rfl rfl rfl rfl rfl ?_
                    by_cases g48 : (40 + l3) < 0 ∨ 80 ≤ (40 + l3).toNatClampNeg
                    · rw [if_pos g48] at h; cases h
                    rw [if_neg g48] at h
                    refine hV.run 2 [] (ws' := wX8 (sC q47.2 9 (upd (q47.2 9) (40 + l3).toNatClampNeg q47.1))) (pc' := 475) (ls' := [(0, .ref 0), (1, .int l1), (2, .int l2), (3, .int l3), (4, .int l4)]) (st' := []) (ps := [vp_in (40 + l3) 80]) rfl ⟨g48, trivial⟩ ?_
                    refine hV.pick [0] (ls' := [(0, .ref 0)]) rfl ?_
                    exact p_X8_readStep_J475 hV n rE hrE res hP (sC q47.2 9 (upd (q47.2 9) (40 + l3).toNatClampNeg q47.1)) h
                  · rw [if_neg c44] at h
                    by_cases c49 : l2 = 8
                    · rw [if_pos c49] at h
                      refine hV.run 8 [9] (ws' := wX8 q2) (pc' := 442) (ls' := [(0, .ref 0), (1, .int l1), (2, .int l2), (3, .int l3), (4, .int l4)]) (st' := [.ref 0, .int (40 + l3), .ref 9]) (ps := [l2.toInt = 0 + ((8 : Nat) : Int), 8 < 11, ¬ 10 < l2.toInt]) rfl ⟨(by rw [c49]; decide), (by decide), (by rw [c49]; decide), trivial⟩ ?_
                      obtain ⟨q50, hq50, h⟩ := am_bind h
                      refine hV.cOi (as := []) (rest := [.int (40 + l3), .ref 9]) (st := [.ref 0, .int (40 + l3), .ref 9]) (ws2 := wX8 q50.2) (pc2 := 445) kX8_294 (c_X8_readVar l n q2 q50 hq50) rfl rfl (am_bA (c := 7) (k := 102) (e := dE) (by decide)) rfl rfl rfl rfl rfl rfl ?_
                      by_cases g51 : (40 + l3) < 0 ∨ 80 ≤ (40 + l3).toNatClampNeg
                      · rw [if_pos g51] at h; cases h
                      rw [if_neg g51] at h
                      refine hV.run 5 [] (ws' := wX8 (sC q50.2 9 (upd (q50.2 9) (40 + l3).toNatClampNeg q50.1))) (pc' := 450) (ls' := [(0, .ref 0), (1, .int l1), (2, .int l2), (3, .int l3), (4, .int l4)]) (st' := [.int 1, .int 0, .int l3, .ref 0]) (ps := [vp_in (40 + l3) 80]) rfl ⟨g51, trivial⟩ ?_
                      obtain ⟨q52, hq52, h⟩ := am_bind h
                      refine hV.cOv (as := [.int l3, .int 0, .int 1]) (rest := []) (st := [.int 1, .int 0, .int l3, .ref 0]) (ws2 := wX8 q52) (pc2 := 453) kX8_280 (c_X8_readInto l n (sC q50.2 9 (upd (q50.2 9) (40 + l3).toNatClampNeg q50.1)) l3 0 1 q52 hq52) rfl rfl (am_bA (c := 100) (k := 102) (e := dE) (by decide)) rfl rfl rfl rfl rfl rfl ?_
                      refine hV.run 1 [] (ws' := wX8 q52) (pc' := 475) (ls' := [(0, .ref 0), (1, .int l1), (2, .int l2), (3, .int l3), (4, .int l4)]) (st' := []) (ps := []) rfl trivial ?_
                      refine hV.pick [0] (ls' := [(0, .ref 0)]) rfl ?_
                      exact p_X8_readStep_J475 hV n rE hrE res hP q52 h
                    · rw [if_neg c49] at h
                      by_cases c53 : l2 = 9
                      · rw [if_pos c53] at h
                        refine hV.run 6 [10] (ws' := wX8 q2) (pc' := 460) (ls' := [(0, .ref 0), (1, .int l1), (2, .int l2), (3, .int l3), (4, .int l4)]) (st' := [.int 1, .int 0, .int l3, .ref 0]) (ps := [l2.toInt = 0 + ((9 : Nat) : Int), 9 < 11, ¬ 10 < l2.toInt]) rfl ⟨(by rw [c53]; decide), (by decide), (by rw [c53]; decide), trivial⟩ ?_
                        obtain ⟨q54, hq54, h⟩ := am_bind h
                        refine hV.cOv (as := [.int l3, .int 0, .int 1]) (rest := []) (st := [.int 1, .int 0, .int l3, .ref 0]) (ws2 := wX8 q54) (pc2 := 463) kX8_280 (c_X8_readInto l n q2 l3 0 1 q54 hq54) rfl rfl (am_bA (c := 100) (k := 102) (e := dE) (by decide)) rfl rfl rfl rfl rfl rfl ?_
                        refine hV.run 1 [] (ws' := wX8 q54) (pc' := 475) (ls' := [(0, .ref 0), (1, .int l1), (2, .int l2), (3, .int l3), (4, .int l4)]) (st' := []) (ps := []) rfl trivial ?_
                        refine hV.pick [0] (ls' := [(0, .ref 0)]) rfl ?_
                        exact p_X8_readStep_J475 hV n rE hrE res hP q54 h
                      · rw [if_neg c53] at h
                        by_cases c55 : l2 = 10
                        · rw [if_pos c55] at h
                          refine hV.run 5 [11] (ws' := wX8 q2) (pc' := 469) (ls' := [(0, .ref 0), (1, .int l1), (2, .int l2), (3, .int l3), (4, .int l4)]) (st' := [.int l1, .int l3, .ref 0]) (ps := [l2.toInt = 0 + ((10 : Nat) : Int), 10 < 11, ¬ 10 < l2.toInt]) rfl ⟨(by rw [c55]; decide), (by decide), (by rw [c55]; decide), trivial⟩ ?_
                          obtain ⟨q56, hq56, h⟩ := am_bind h
                          refine hV.cOv (as := [.int l3, .int l1]) (rest := []) (st := [.int l1, .int l3, .ref 0]) (ws2 := wX8 q56) (pc2 := 472) kX8_298 (c_X8_readBranches l n rE dE hrE q2 l3 l1 q56 hq56) rfl rfl (am_bB (j := 101) (k := 102) (e := dE) (by decide)) rfl rfl rfl rfl rfl rfl ?_
                          refine hV.run 1 [] (ws' := wX8 q56) (pc' := 475) (ls' := [(0, .ref 0), (1, .int l1), (2, .int l2), (3, .int l3), (4, .int l4)]) (st' := []) (ps := []) rfl trivial ?_
                          refine hV.pick [0] (ls' := [(0, .ref 0)]) rfl ?_
                          exact p_X8_readStep_J475 hV n rE hrE res hP q56 h
                        · rw [if_neg c55] at h
                          refine hV.run 2 [0] (ws' := wX8 q2) (pc' := 475) (ls' := [(0, .ref 0), (1, .int l1), (2, .int l2), (3, .int l3), (4, .int l4)]) (st' := []) (ps := [l2.toInt < 0 ∨ 10 < l2.toInt]) rfl ⟨(by have c3_ := am_ne c3 (by decide : (0 : Int32).toInt = 0); have c14_ := am_ne c14 (by decide : (1 : Int32).toInt = 1); have c25_ := am_ne c25 (by decide : (2 : Int32).toInt = 2); have c36_ := am_ne c36 (by decide : (3 : Int32).toInt = 3); have c39_ := am_ne c39 (by decide : (4 : Int32).toInt = 4); have c42_ := am_ne c42 (by decide : (5 : Int32).toInt = 5); have c43_ := am_ne c43 (by decide : (6 : Int32).toInt = 6); have c44_ := am_ne c44 (by decide : (7 : Int32).toInt = 7); have c49_ := am_ne c49 (by decide : (8 : Int32).toInt = 8); have c53_ := am_ne c53 (by decide : (9 : Int32).toInt = 9); have c55_ := am_ne c55 (by decide : (10 : Int32).toInt = 10); omega), trivial⟩ ?_
                          refine hV.pick [0] (ls' := [(0, .ref 0)]) rfl ?_
                          exact p_X8_readStep_J475 hV n rE hrE res hP q2 h
  · rw [if_neg c1] at h
    by_cases g57 : ((3 * (40 + l3)) + l4) < 0 ∨ 240 ≤ ((3 * (40 + l3)) + l4).toNatClampNeg
    · rw [if_pos g57] at h; cases h
    rw [if_neg g57] at h
    by_cases g58 : ((3 * (40 + l3)) + l4) < 0 ∨ 240 ≤ ((3 * (40 + l3)) + l4).toNatClampNeg
    · rw [if_pos g58] at h; cases h
    rw [if_neg g58] at h
    refine hV.run 27 [0] (ws' := wX8 (sC (sC σ 7 (upd (σ 7) ((3 * (40 + l3)) + l4).toNatClampNeg 0)) 8 (upd (σ 8) ((3 * (40 + l3)) + l4).toNatClampNeg 0))) (pc' := 152) (ls' := [(4, .int (l4 + 1)), (0, .ref 0), (1, .int l1), (2, .int l2), (3, .int l3)]) (st' := []) (ps := [¬ 3 ≤ l4, vp_in ((3 * (40 + l3)) + l4) 240, vp_in ((3 * (40 + l3)) + l4) 240]) rfl ⟨c1, g57, g58, trivial⟩ ?_
    refine hV.pick [1, 2, 3, 4, 0] (ls' := [(0, .ref 0), (1, .int l1), (2, .int l2), (3, .int l3), (4, .int (l4 + 1))]) rfl ?_
    exact hk152 (sC (sC σ 7 (upd (σ 7) ((3 * (40 + l3)) + l4).toNatClampNeg 0)) 8 (upd (σ 8) ((3 * (40 + l3)) + l4).toNatClampNeg 0)) l1 l2 l3 (l4 + 1) h
theorem p_X8_readStep_L152 {dE : Nat} {l : Launch} {Post : Option Value → am_W → Prop} {V : am_VT} (hV : am_B l RX8 false (dE + 102) (am_cdT' tX8_readStep) (am_rfL rfX8) none Post 36 V) (n : Nat) (rE : am_M → Int32 → Int32 → Option (Int32 × am_M)) (hrE : ∀ (l : Launch) (σ : am_M) (a1 a2 : Int32) (res : Int32 × am_M), rE σ a1 a2 = some res → am_Con l yX8_readSteps cX8_readSteps 6 (some .int) dE [.ref 0, .int a1, .int a2] (wX8 σ) (fun (r : Option Value) (w : am_W) => r = (some (.int res.1)) ∧ w = (wX8 res.2))) (res : am_M) (hP : Post none (wX8 res)) : ∀ (k : Nat) (σ : am_M) (l1 : Int32) (l2 : Int32) (l3 : Int32) (l4 : Int32) (h : X8_readStep_L152 n rE k σ l1 l2 l3 l4 = some res), V (wX8 σ) 152 [(0, .ref 0), (1, .int l1), (2, .int l2), (3, .int l3), (4, .int l4)] [] := by
  intro k
  induction k with
  | zero => intro σ l1 l2 l3 l4 h; cases h
  | succ k ih => intro σ l1 l2 l3 l4 h; exact p_X8_readStep_B152 hV n rE hrE res hP _ ih σ l1 l2 l3 l4 h
def X8_readStep_J108 (n : Nat) (rE : am_M → Int32 → Int32 → Option (Int32 × am_M)) (σ : am_M) (l1 : Int32) (l2 : Int32) (l3 : Int32) (s0 : Int32) (s1 : Int32) : Option am_M := if s1 < 0 ∨ 80 ≤ s1.toNatClampNeg then none else (if (40 + l3) < 0 ∨ 80 ≤ (40 + l3).toNatClampNeg then none else (if (40 + l3) < 0 ∨ 80 ≤ (40 + l3).toNatClampNeg then none else (if (40 + l3) < 0 ∨ 80 ≤ (40 + l3).toNatClampNeg then none else (if (40 + l3) < 0 ∨ 80 ≤ (40 + l3).toNatClampNeg then none else (X8_readStep_L152 n rE n (sC (sC (sC (sC (sC σ 9 (upd (σ 9) (40 + l3).toNatClampNeg 0)) 10 (upd (σ 10) s1.toNatClampNeg s0)) 11 (upd (σ 11) (40 + l3).toNatClampNeg (-1))) 12 (upd (σ 12) (40 + l3).toNatClampNeg (-1))) 13 (upd (σ 13) (40 + l3).toNatClampNeg (-1))) l1 l2 l3 0)))))
set_option maxRecDepth 100000 in
set_option maxHeartbeats 4000000 in
theorem p_X8_readStep_J108 {dE : Nat} {l : Launch} {Post : Option Value → am_W → Prop} {V : am_VT} (hV : am_B l RX8 false (dE + 102) (am_cdT' tX8_readStep) (am_rfL rfX8) none Post 36 V) (n : Nat) (rE : am_M → Int32 → Int32 → Option (Int32 × am_M)) (hrE : ∀ (l : Launch) (σ : am_M) (a1 a2 : Int32) (res : Int32 × am_M), rE σ a1 a2 = some res → am_Con l yX8_readSteps cX8_readSteps 6 (some .int) dE [.ref 0, .int a1, .int a2] (wX8 σ) (fun (r : Option Value) (w : am_W) => r = (some (.int res.1)) ∧ w = (wX8 res.2))) (res : am_M) (hP : Post none (wX8 res)) (σ : am_M) (l1 : Int32) (l2 : Int32) (l3 : Int32) (s0 : Int32) (s1 : Int32) (h : X8_readStep_J108 n rE σ l1 l2 l3 s0 s1 = some res) : V (wX8 σ) 108 [(0, .ref 0), (1, .int l1), (2, .int l2), (3, .int l3)] [.int s0, .int s1, .ref 10] := by
  unfold X8_readStep_J108 at h
  by_cases g1 : s1 < 0 ∨ 80 ≤ s1.toNatClampNeg
  · rw [if_pos g1] at h; cases h
  rw [if_neg g1] at h
  by_cases g2 : (40 + l3) < 0 ∨ 80 ≤ (40 + l3).toNatClampNeg
  · rw [if_pos g2] at h; cases h
  rw [if_neg g2] at h
  by_cases g3 : (40 + l3) < 0 ∨ 80 ≤ (40 + l3).toNatClampNeg
  · rw [if_pos g3] at h; cases h
  rw [if_neg g3] at h
  by_cases g4 : (40 + l3) < 0 ∨ 80 ≤ (40 + l3).toNatClampNeg
  · rw [if_pos g4] at h; cases h
  rw [if_neg g4] at h
  by_cases g5 : (40 + l3) < 0 ∨ 80 ≤ (40 + l3).toNatClampNeg
  · rw [if_pos g5] at h; cases h
  rw [if_neg g5] at h
  refine hV.run 31 [] (ws' := wX8 (sC (sC (sC (sC (sC σ 9 (upd (σ 9) (40 + l3).toNatClampNeg 0)) 10 (upd (σ 10) s1.toNatClampNeg s0)) 11 (upd (σ 11) (40 + l3).toNatClampNeg (-1))) 12 (upd (σ 12) (40 + l3).toNatClampNeg (-1))) 13 (upd (σ 13) (40 + l3).toNatClampNeg (-1)))) (pc' := 152) (ls' := [(4, .int 0), (0, .ref 0), (1, .int l1), (2, .int l2), (3, .int l3)]) (st' := []) (ps := [vp_in s1 80, vp_in (40 + l3) 80, vp_in (40 + l3) 80, vp_in (40 + l3) 80, vp_in (40 + l3) 80]) rfl ⟨g1, g2, g3, g4, g5, trivial⟩ ?_
  refine hV.pick [1, 2, 3, 4, 0] (ls' := [(0, .ref 0), (1, .int l1), (2, .int l2), (3, .int l3), (4, .int 0)]) rfl ?_
  exact p_X8_readStep_L152 hV n rE hrE res hP n (sC (sC (sC (sC (sC σ 9 (upd (σ 9) (40 + l3).toNatClampNeg 0)) 10 (upd (σ 10) s1.toNatClampNeg s0)) 11 (upd (σ 11) (40 + l3).toNatClampNeg (-1))) 12 (upd (σ 12) (40 + l3).toNatClampNeg (-1))) 13 (upd (σ 13) (40 + l3).toNatClampNeg (-1))) l1 l2 l3 0 h
def X8_readStep_J102 (n : Nat) (rE : am_M → Int32 → Int32 → Option (Int32 × am_M)) (σ : am_M) (l1 : Int32) (l2 : Int32) (l3 : Int32) (s0 : Int32) : Option am_M := X8_readStep_J108 n rE σ l1 l2 l3 99 s0
set_option maxRecDepth 100000 in
set_option maxHeartbeats 4000000 in
theorem p_X8_readStep_J102 {dE : Nat} {l : Launch} {Post : Option Value → am_W → Prop} {V : am_VT} (hV : am_B l RX8 false (dE + 102) (am_cdT' tX8_readStep) (am_rfL rfX8) none Post 36 V) (n : Nat) (rE : am_M → Int32 → Int32 → Option (Int32 × am_M)) (hrE : ∀ (l : Launch) (σ : am_M) (a1 a2 : Int32) (res : Int32 × am_M), rE σ a1 a2 = some res → am_Con l yX8_readSteps cX8_readSteps 6 (some .int) dE [.ref 0, .int a1, .int a2] (wX8 σ) (fun (r : Option Value) (w : am_W) => r = (some (.int res.1)) ∧ w = (wX8 res.2))) (res : am_M) (hP : Post none (wX8 res)) (σ : am_M) (l1 : Int32) (l2 : Int32) (l3 : Int32) (s0 : Int32) (h : X8_readStep_J102 n rE σ l1 l2 l3 s0 = some res) : V (wX8 σ) 102 [(0, .ref 0), (1, .int l1), (2, .int l2), (3, .int l3)] [.int s0, .ref 10] := by
  unfold X8_readStep_J102 at h
  refine hV.run 2 [] (ws' := wX8 σ) (pc' := 108) (ls' := [(0, .ref 0), (1, .int l1), (2, .int l2), (3, .int l3)]) (st' := [.int 99, .int s0, .ref 10]) (ps := []) rfl trivial ?_
  exact p_X8_readStep_J108 hV n rE hrE res hP σ l1 l2 l3 99 s0 h
def X8_readStep_J49 (n : Nat) (rE : am_M → Int32 → Int32 → Option (Int32 × am_M)) (σ : am_M) (l1 : Int32) (l2 : Int32) : Option am_M := if (σ 0 18) = 0 then (if (40 + (σ 4 (1 : Int32).toNatClampNeg)) < 0 ∨ 80 ≤ (40 + (σ 4 (1 : Int32).toNatClampNeg)).toNatClampNeg then none else (if l2 = 3 then (X8_readStep_J102 n rE (sC (sC σ 4 (upd (σ 4) (1 : Int32).toNatClampNeg ((σ 4 (1 : Int32).toNatClampNeg) + 1))) 6 (upd (σ 6) (40 + (σ 4 (1 : Int32).toNatClampNeg)).toNatClampNeg l2)) l1 l2 (σ 4 (1 : Int32).toNatClampNeg) (40 + (σ 4 (1 : Int32).toNatClampNeg))) else (if l2 = 4 then (X8_readStep_J102 n rE (sC (sC σ 4 (upd (σ 4) (1 : Int32).toNatClampNeg ((σ 4 (1 : Int32).toNatClampNeg) + 1))) 6 (upd (σ 6) (40 + (σ 4 (1 : Int32).toNatClampNeg)).toNatClampNeg l2)) l1 l2 (σ 4 (1 : Int32).toNatClampNeg) (40 + (σ 4 (1 : Int32).toNatClampNeg))) else (X8_readStep_J108 n rE (sC (sC σ 4 (upd (σ 4) (1 : Int32).toNatClampNeg ((σ 4 (1 : Int32).toNatClampNeg) + 1))) 6 (upd (σ 6) (40 + (σ 4 (1 : Int32).toNatClampNeg)).toNatClampNeg l2)) l1 l2 (σ 4 (1 : Int32).toNatClampNeg) 1 (40 + (σ 4 (1 : Int32).toNatClampNeg)))))) else (some σ)
set_option maxRecDepth 100000 in
set_option maxHeartbeats 4000000 in
theorem p_X8_readStep_J49 {dE : Nat} {l : Launch} {Post : Option Value → am_W → Prop} {V : am_VT} (hV : am_B l RX8 false (dE + 102) (am_cdT' tX8_readStep) (am_rfL rfX8) none Post 36 V) (n : Nat) (rE : am_M → Int32 → Int32 → Option (Int32 × am_M)) (hrE : ∀ (l : Launch) (σ : am_M) (a1 a2 : Int32) (res : Int32 × am_M), rE σ a1 a2 = some res → am_Con l yX8_readSteps cX8_readSteps 6 (some .int) dE [.ref 0, .int a1, .int a2] (wX8 σ) (fun (r : Option Value) (w : am_W) => r = (some (.int res.1)) ∧ w = (wX8 res.2))) (res : am_M) (hP : Post none (wX8 res)) (σ : am_M) (l1 : Int32) (l2 : Int32) (h : X8_readStep_J49 n rE σ l1 l2 = some res) : V (wX8 σ) 49 [(0, .ref 0), (1, .int l1), (2, .int l2)] [] := by
  unfold X8_readStep_J49 at h
  by_cases c1 : (σ 0 18) = 0
  · rw [if_pos c1] at h
    by_cases g2 : (40 + (σ 4 (1 : Int32).toNatClampNeg)) < 0 ∨ 80 ≤ (40 + (σ 4 (1 : Int32).toNatClampNeg)).toNatClampNeg
    · rw [if_pos g2] at h; cases h
    rw [if_neg g2] at h
    by_cases c3 : l2 = 3
    · rw [if_pos c3] at h
      refine hV.run 31 [1, 1] (ws' := wX8 (sC (sC σ 4 (upd (σ 4) (1 : Int32).toNatClampNeg ((σ 4 (1 : Int32).toNatClampNeg) + 1))) 6 (upd (σ 6) (40 + (σ 4 (1 : Int32).toNatClampNeg)).toNatClampNeg l2))) (pc' := 102) (ls' := [(3, .int (σ 4 (1 : Int32).toNatClampNeg)), (0, .ref 0), (1, .int l1), (2, .int l2)]) (st' := [.int (40 + (σ 4 (1 : Int32).toNatClampNeg)), .ref 10]) (ps := [(σ 0 18) = 0, vp_in (1 : Int32) 2, vp_in (1 : Int32) 2, vp_in (1 : Int32) 2, vp_in (40 + (σ 4 (1 : Int32).toNatClampNeg)) 80, l2 = 3]) rfl ⟨c1, (am_inc (by decide)), (am_inc (by decide)), (am_inc (by decide)), g2, c3, trivial⟩ ?_
      refine hV.pick [1, 2, 3, 0] (ls' := [(0, .ref 0), (1, .int l1), (2, .int l2), (3, .int (σ 4 (1 : Int32).toNatClampNeg))]) rfl ?_
      exact p_X8_readStep_J102 hV n rE hrE res hP (sC (sC σ 4 (upd (σ 4) (1 : Int32).toNatClampNeg ((σ 4 (1 : Int32).toNatClampNeg) + 1))) 6 (upd (σ 6) (40 + (σ 4 (1 : Int32).toNatClampNeg)).toNatClampNeg l2)) l1 l2 (σ 4 (1 : Int32).toNatClampNeg) (40 + (σ 4 (1 : Int32).toNatClampNeg)) h
    · rw [if_neg c3] at h
      by_cases c4 : l2 = 4
      · rw [if_pos c4] at h
        refine hV.run 34 [1, 0, 0] (ws' := wX8 (sC (sC σ 4 (upd (σ 4) (1 : Int32).toNatClampNeg ((σ 4 (1 : Int32).toNatClampNeg) + 1))) 6 (upd (σ 6) (40 + (σ 4 (1 : Int32).toNatClampNeg)).toNatClampNeg l2))) (pc' := 102) (ls' := [(3, .int (σ 4 (1 : Int32).toNatClampNeg)), (0, .ref 0), (1, .int l1), (2, .int l2)]) (st' := [.int (40 + (σ 4 (1 : Int32).toNatClampNeg)), .ref 10]) (ps := [(σ 0 18) = 0, vp_in (1 : Int32) 2, vp_in (1 : Int32) 2, vp_in (1 : Int32) 2, vp_in (40 + (σ 4 (1 : Int32).toNatClampNeg)) 80, ¬ l2 = 3, l2 = 4]) rfl ⟨c1, (am_inc (by decide)), (am_inc (by decide)), (am_inc (by decide)), g2, c3, c4, trivial⟩ ?_
        refine hV.pick [1, 2, 3, 0] (ls' := [(0, .ref 0), (1, .int l1), (2, .int l2), (3, .int (σ 4 (1 : Int32).toNatClampNeg))]) rfl ?_
        exact p_X8_readStep_J102 hV n rE hrE res hP (sC (sC σ 4 (upd (σ 4) (1 : Int32).toNatClampNeg ((σ 4 (1 : Int32).toNatClampNeg) + 1))) 6 (upd (σ 6) (40 + (σ 4 (1 : Int32).toNatClampNeg)).toNatClampNeg l2)) l1 l2 (σ 4 (1 : Int32).toNatClampNeg) (40 + (σ 4 (1 : Int32).toNatClampNeg)) h
      · rw [if_neg c4] at h
        refine hV.run 35 [1, 0, 1] (ws' := wX8 (sC (sC σ 4 (upd (σ 4) (1 : Int32).toNatClampNeg ((σ 4 (1 : Int32).toNatClampNeg) + 1))) 6 (upd (σ 6) (40 + (σ 4 (1 : Int32).toNatClampNeg)).toNatClampNeg l2))) (pc' := 108) (ls' := [(3, .int (σ 4 (1 : Int32).toNatClampNeg)), (0, .ref 0), (1, .int l1), (2, .int l2)]) (st' := [.int 1, .int (40 + (σ 4 (1 : Int32).toNatClampNeg)), .ref 10]) (ps := [(σ 0 18) = 0, vp_in (1 : Int32) 2, vp_in (1 : Int32) 2, vp_in (1 : Int32) 2, vp_in (40 + (σ 4 (1 : Int32).toNatClampNeg)) 80, ¬ l2 = 3, ¬ l2 = 4]) rfl ⟨c1, (am_inc (by decide)), (am_inc (by decide)), (am_inc (by decide)), g2, c3, c4, trivial⟩ ?_
        refine hV.pick [1, 2, 3, 0] (ls' := [(0, .ref 0), (1, .int l1), (2, .int l2), (3, .int (σ 4 (1 : Int32).toNatClampNeg))]) rfl ?_
        exact p_X8_readStep_J108 hV n rE hrE res hP (sC (sC σ 4 (upd (σ 4) (1 : Int32).toNatClampNeg ((σ 4 (1 : Int32).toNatClampNeg) + 1))) 6 (upd (σ 6) (40 + (σ 4 (1 : Int32).toNatClampNeg)).toNatClampNeg l2)) l1 l2 (σ 4 (1 : Int32).toNatClampNeg) 1 (40 + (σ 4 (1 : Int32).toNatClampNeg)) h
  · rw [if_neg c1] at h
    refine hV.run 3 [0] (ws' := wX8 σ) (pc' := 56) (ls' := [(0, .ref 0), (1, .int l1), (2, .int l2)]) (st' := []) (ps := [¬ (σ 0 18) = 0]) rfl ⟨c1, trivial⟩ ?_
    cases h
    exact hV.rv rfl rfl rfl hP
def X8_readStep_J44 (n : Nat) (rE : am_M → Int32 → Int32 → Option (Int32 × am_M)) (σ : am_M) (l1 : Int32) (l2 : Int32) : Option am_M := (X8_wrong σ 2).bind (fun q1 => X8_readStep_J49 n rE q1 l1 l2)
set_option maxRecDepth 100000 in
set_option maxHeartbeats 4000000 in
theorem p_X8_readStep_J44 {dE : Nat} {l : Launch} {Post : Option Value → am_W → Prop} {V : am_VT} (hV : am_B l RX8 false (dE + 102) (am_cdT' tX8_readStep) (am_rfL rfX8) none Post 36 V) (n : Nat) (rE : am_M → Int32 → Int32 → Option (Int32 × am_M)) (hrE : ∀ (l : Launch) (σ : am_M) (a1 a2 : Int32) (res : Int32 × am_M), rE σ a1 a2 = some res → am_Con l yX8_readSteps cX8_readSteps 6 (some .int) dE [.ref 0, .int a1, .int a2] (wX8 σ) (fun (r : Option Value) (w : am_W) => r = (some (.int res.1)) ∧ w = (wX8 res.2))) (res : am_M) (hP : Post none (wX8 res)) (σ : am_M) (l1 : Int32) (l2 : Int32) (h : X8_readStep_J44 n rE σ l1 l2 = some res) : V (wX8 σ) 44 [(0, .ref 0), (1, .int l1), (2, .int l2)] [] := by
  unfold X8_readStep_J44 at h
  refine hV.run 2 [] (ws' := wX8 σ) (pc' := 46) (ls' := [(0, .ref 0), (1, .int l1), (2, .int l2)]) (st' := [.int 2, .ref 0]) (ps := []) rfl trivial ?_
  obtain ⟨q1, hq1, h⟩ := am_bind h
  refine hV.cOv (as := [.int 2]) (rest := []) (st := [.int 2, .ref 0]) (ws2 := wX8 q1) (pc2 := 49) kX8_241 (c_X8_wrong l σ 2 q1 hq1) rfl rfl (am_bA (c := 1) (k := 102) (e := dE) (by decide)) rfl rfl rfl rfl rfl rfl ?_
  exact p_X8_readStep_J49 hV n rE hrE res hP q1 l1 l2 h
def X8_readStep (n : Nat) (rE : am_M → Int32 → Int32 → Option (Int32 × am_M)) (σ : am_M) (a1 : Int32) : Option am_M := (X8_which n σ).bind (fun q1 => if q1 = (-1) then (X8_wrong σ 1).bind (fun q3 => X8_readStep_J49 n rE q3 a1 q1) else (if (σ 4 (1 : Int32).toNatClampNeg) = 40 then (X8_readStep_J44 n rE σ a1 q1) else (if q1 = 10 then (if a1 = 4 then (X8_readStep_J44 n rE σ a1 q1) else (X8_readStep_J49 n rE σ a1 q1)) else (X8_readStep_J49 n rE σ a1 q1))))
set_option maxRecDepth 100000 in
set_option maxHeartbeats 4000000 in
theorem c_X8_readStep (l : Launch) (n : Nat) (rE : am_M → Int32 → Int32 → Option (Int32 × am_M)) (dE : Nat) (hrE : ∀ (l : Launch) (σ : am_M) (a1 a2 : Int32) (res : Int32 × am_M), rE σ a1 a2 = some res → am_Con l yX8_readSteps cX8_readSteps 6 (some .int) dE [.ref 0, .int a1, .int a2] (wX8 σ) (fun (r : Option Value) (w : am_W) => r = (some (.int res.1)) ∧ w = (wX8 res.2))) (σ : am_M) (a1 : Int32) (res : am_M) (h : X8_readStep n rE σ a1 = some res) : am_Con l yX8_readStep cX8_readStep 5 none (dE + 102) [.ref 0, .int a1] (wX8 σ) (fun (r : Option Value) (w : am_W) => r = none ∧ w = (wX8 res)) := by
  refine am_metn (n0 := 36) (own := RX8) (cd := am_cdT' tX8_readStep) (rf := am_rfL rfX8) (ini := false) rfl (by decide +kernel) rfl (by decide) dX8_readStep rfX8_ok (Nat.le_of_ble_eq_true rfl) ?_
  intro V hV
  have hP : (fun (r : Option Value) (w : am_W) => r = none ∧ w = (wX8 res)) none (wX8 res) := ⟨rfl, rfl⟩
  show V (wX8 σ) 0 [(0, .ref 0), (1, .int a1)] []
  unfold X8_readStep at h
  refine hV.run 3 [] (ws' := wX8 σ) (pc' := 5) (ls' := [(0, .ref 0), (1, .int a1)]) (st' := [.ref 1, .ref 0]) (ps := []) rfl trivial ?_
  obtain ⟨q1, hq1, h⟩ := am_bind h
  refine hV.cOi (as := [.ref 1]) (rest := []) (st := [.ref 1, .ref 0]) (ws2 := wX8 σ) (pc2 := 8) kX8_257 (c_X8_which l n σ q1 hq1) rfl rfl (am_bA (c := 6) (k := 102) (e := dE) (by decide)) rfl rfl rfl rfl rfl rfl ?_
  by_cases c2 : q1 = (-1)
  · rw [if_pos c2] at h
    refine hV.run 6 [0] (ws' := wX8 σ) (pc' := 16) (ls' := [(2, .int q1), (0, .ref 0), (1, .int a1)]) (st' := [.int 1, .ref 0]) (ps := [q1 = (-1)]) rfl ⟨c2, trivial⟩ ?_
    obtain ⟨q3, hq3, h⟩ := am_bind h
    refine hV.cOv (as := [.int 1]) (rest := []) (st := [.int 1, .ref 0]) (ws2 := wX8 q3) (pc2 := 19) kX8_241 (c_X8_wrong l σ 1 q3 hq3) rfl rfl (am_bA (c := 1) (k := 102) (e := dE) (by decide)) rfl rfl rfl rfl rfl rfl ?_
    refine hV.run 1 [] (ws' := wX8 q3) (pc' := 49) (ls' := [(2, .int q1), (0, .ref 0), (1, .int a1)]) (st' := []) (ps := []) rfl trivial ?_
    refine hV.pick [1, 2, 0] (ls' := [(0, .ref 0), (1, .int a1), (2, .int q1)]) rfl ?_
    exact p_X8_readStep_J49 hV n rE hrE res hP q3 a1 q1 h
  · rw [if_neg c2] at h
    by_cases c4 : (σ 4 (1 : Int32).toNatClampNeg) = 40
    · rw [if_pos c4] at h
      refine hV.run 10 [1, 1] (ws' := wX8 σ) (pc' := 44) (ls' := [(2, .int q1), (0, .ref 0), (1, .int a1)]) (st' := []) (ps := [¬ q1 = (-1), vp_in (1 : Int32) 2, (σ 4 (1 : Int32).toNatClampNeg) = 40]) rfl ⟨c2, (am_inc (by decide)), c4, trivial⟩ ?_
      refine hV.pick [1, 2, 0] (ls' := [(0, .ref 0), (1, .int a1), (2, .int q1)]) rfl ?_
      exact p_X8_readStep_J44 hV n rE hrE res hP σ a1 q1 h
    · rw [if_neg c4] at h
      by_cases c5 : q1 = 10
      · rw [if_pos c5] at h
        by_cases c6 : a1 = 4
        · rw [if_pos c6] at h
          refine hV.run 16 [1, 0, 0, 0] (ws' := wX8 σ) (pc' := 44) (ls' := [(2, .int q1), (0, .ref 0), (1, .int a1)]) (st' := []) (ps := [¬ q1 = (-1), vp_in (1 : Int32) 2, ¬ (σ 4 (1 : Int32).toNatClampNeg) = 40, q1 = 10, a1 = 4]) rfl ⟨c2, (am_inc (by decide)), c4, c5, c6, trivial⟩ ?_
          refine hV.pick [1, 2, 0] (ls' := [(0, .ref 0), (1, .int a1), (2, .int q1)]) rfl ?_
          exact p_X8_readStep_J44 hV n rE hrE res hP σ a1 q1 h
        · rw [if_neg c6] at h
          refine hV.run 16 [1, 0, 0, 1] (ws' := wX8 σ) (pc' := 49) (ls' := [(2, .int q1), (0, .ref 0), (1, .int a1)]) (st' := []) (ps := [¬ q1 = (-1), vp_in (1 : Int32) 2, ¬ (σ 4 (1 : Int32).toNatClampNeg) = 40, q1 = 10, ¬ a1 = 4]) rfl ⟨c2, (am_inc (by decide)), c4, c5, c6, trivial⟩ ?_
          refine hV.pick [1, 2, 0] (ls' := [(0, .ref 0), (1, .int a1), (2, .int q1)]) rfl ?_
          exact p_X8_readStep_J49 hV n rE hrE res hP σ a1 q1 h
      · rw [if_neg c5] at h
        refine hV.run 13 [1, 0, 1] (ws' := wX8 σ) (pc' := 49) (ls' := [(2, .int q1), (0, .ref 0), (1, .int a1)]) (st' := []) (ps := [¬ q1 = (-1), vp_in (1 : Int32) 2, ¬ (σ 4 (1 : Int32).toNatClampNeg) = 40, ¬ q1 = 10]) rfl ⟨c2, (am_inc (by decide)), c4, c5, trivial⟩ ?_
        refine hV.pick [1, 2, 0] (ls' := [(0, .ref 0), (1, .int a1), (2, .int q1)]) rfl ?_
        exact p_X8_readStep_J49 hV n rE hrE res hP σ a1 q1 h

def X8_readSteps_J125 (n : Nat) (rE : am_M → Int32 → Int32 → Option (Int32 × am_M)) (σ : am_M) (l3 : Int32) (s0 : Int32) (s1 : Int32) : Option (Int32 × am_M) := if s1 < 0 ∨ 80 ≤ s1.toNatClampNeg then none else (some (l3, sC σ 11 (upd (σ 11) s1.toNatClampNeg s0)))
set_option maxRecDepth 100000 in
set_option maxHeartbeats 4000000 in
theorem p_X8_readSteps_J125 {dE : Nat} {l : Launch} {Post : Option Value → am_W → Prop} {V : am_VT} (hV : am_B l RX8 false (dE + 103) (am_cdT' tX8_readSteps) (am_rfL rfX8) (some .int) Post 36 V) (n : Nat) (rE : am_M → Int32 → Int32 → Option (Int32 × am_M)) (hrE : ∀ (l : Launch) (σ : am_M) (a1 a2 : Int32) (res : Int32 × am_M), rE σ a1 a2 = some res → am_Con l yX8_readSteps cX8_readSteps 6 (some .int) dE [.ref 0, .int a1, .int a2] (wX8 σ) (fun (r : Option Value) (w : am_W) => r = (some (.int res.1)) ∧ w = (wX8 res.2))) (res : (Int32 × am_M)) (hP : Post (some (.int res.1)) (wX8 res.2)) (σ : am_M) (l3 : Int32) (s0 : Int32) (s1 : Int32) (h : X8_readSteps_J125 n rE σ l3 s0 s1 = some res) : V (wX8 σ) 125 [(3, .int l3)] [.int s0, .int s1, .ref 11] := by
  unfold X8_readSteps_J125 at h
  by_cases g1 : s1 < 0 ∨ 80 ≤ s1.toNatClampNeg
  · rw [if_pos g1] at h; cases h
  rw [if_neg g1] at h
  refine hV.run 2 [] (ws' := wX8 (sC σ 11 (upd (σ 11) s1.toNatClampNeg s0))) (pc' := 127) (ls' := [(3, .int l3)]) (st' := [.int l3]) (ps := [vp_in s1 80]) rfl ⟨g1, trivial⟩ ?_
  cases h
  exact hV.ri rfl rfl rfl hP
def X8_readSteps_J97 (n : Nat) (rE : am_M → Int32 → Int32 → Option (Int32 × am_M)) (σ : am_M) (l2 : Int32) (l3 : Int32) (l4 : Int32) : Option (Int32 × am_M) := if l4 = (-1) then (some (l3, σ)) else (if l2 = (-1) then (X8_readSteps_J125 n rE σ l3 (-1) (40 + l4)) else (X8_readSteps_J125 n rE σ l3 ((-2) - l2) (40 + l4)))
set_option maxRecDepth 100000 in
set_option maxHeartbeats 4000000 in
theorem p_X8_readSteps_J97 {dE : Nat} {l : Launch} {Post : Option Value → am_W → Prop} {V : am_VT} (hV : am_B l RX8 false (dE + 103) (am_cdT' tX8_readSteps) (am_rfL rfX8) (some .int) Post 36 V) (n : Nat) (rE : am_M → Int32 → Int32 → Option (Int32 × am_M)) (hrE : ∀ (l : Launch) (σ : am_M) (a1 a2 : Int32) (res : Int32 × am_M), rE σ a1 a2 = some res → am_Con l yX8_readSteps cX8_readSteps 6 (some .int) dE [.ref 0, .int a1, .int a2] (wX8 σ) (fun (r : Option Value) (w : am_W) => r = (some (.int res.1)) ∧ w = (wX8 res.2))) (res : (Int32 × am_M)) (hP : Post (some (.int res.1)) (wX8 res.2)) (σ : am_M) (l2 : Int32) (l3 : Int32) (l4 : Int32) (h : X8_readSteps_J97 n rE σ l2 l3 l4 = some res) : V (wX8 σ) 97 [(0, .ref 0), (2, .int l2), (3, .int l3), (4, .int l4)] [] := by
  unfold X8_readSteps_J97 at h
  by_cases c1 : l4 = (-1)
  · rw [if_pos c1] at h
    refine hV.run 4 [1] (ws' := wX8 σ) (pc' := 127) (ls' := [(0, .ref 0), (2, .int l2), (3, .int l3), (4, .int l4)]) (st' := [.int l3]) (ps := [l4 = (-1)]) rfl ⟨c1, trivial⟩ ?_
    cases h
    exact hV.ri rfl rfl rfl hP
  · rw [if_neg c1] at h
    by_cases c2 : l2 = (-1)
    · rw [if_pos c2] at h
      refine hV.run 13 [0, 0] (ws' := wX8 σ) (pc' := 125) (ls' := [(0, .ref 0), (2, .int l2), (3, .int l3), (4, .int l4)]) (st' := [.int (-1), .int (40 + l4), .ref 11]) (ps := [¬ l4 = (-1), l2 = (-1)]) rfl ⟨c1, c2, trivial⟩ ?_
      refine hV.pick [2] (ls' := [(3, .int l3)]) rfl ?_
      exact p_X8_readSteps_J125 hV n rE hrE res hP σ l3 (-1) (40 + l4) h
    · rw [if_neg c2] at h
      refine hV.run 14 [0, 1] (ws' := wX8 σ) (pc' := 125) (ls' := [(0, .ref 0), (2, .int l2), (3, .int l3), (4, .int l4)]) (st' := [.int ((-2) - l2), .int (40 + l4), .ref 11]) (ps := [¬ l4 = (-1), ¬ l2 = (-1)]) rfl ⟨c1, c2, trivial⟩ ?_
      refine hV.pick [2] (ls' := [(3, .int l3)]) rfl ?_
      exact p_X8_readSteps_J125 hV n rE hrE res hP σ l3 ((-2) - l2) (40 + l4) h
def X8_readSteps_J90 (n : Nat) (rE : am_M → Int32 → Int32 → Option (Int32 × am_M)) (kont5 : am_M → Int32 → Int32 → Int32 → Int32 → Option (Int32 × am_M)) (σ : am_M) (l1 : Int32) (l2 : Int32) (l3 : Int32) (l5 : Int32) : Option (Int32 × am_M) := kont5 σ l1 l2 l3 l5
set_option maxRecDepth 100000 in
set_option maxHeartbeats 4000000 in
theorem p_X8_readSteps_J90 {dE : Nat} {l : Launch} {Post : Option Value → am_W → Prop} {V : am_VT} (hV : am_B l RX8 false (dE + 103) (am_cdT' tX8_readSteps) (am_rfL rfX8) (some .int) Post 36 V) (n : Nat) (rE : am_M → Int32 → Int32 → Option (Int32 × am_M)) (hrE : ∀ (l : Launch) (σ : am_M) (a1 a2 : Int32) (res : Int32 × am_M), rE σ a1 a2 = some res → am_Con l yX8_readSteps cX8_readSteps 6 (some .int) dE [.ref 0, .int a1, .int a2] (wX8 σ) (fun (r : Option Value) (w : am_W) => r = (some (.int res.1)) ∧ w = (wX8 res.2))) (res : (Int32 × am_M)) (hP : Post (some (.int res.1)) (wX8 res.2)) (kont5 : am_M → Int32 → Int32 → Int32 → Int32 → Option (Int32 × am_M)) (hk5 : ∀ (σ : am_M) (l1 : Int32) (l2 : Int32) (l3 : Int32) (l4 : Int32), kont5 σ l1 l2 l3 l4 = some res → V (wX8 σ) 5 [(0, .ref 0), (1, .int l1), (2, .int l2), (3, .int l3), (4, .int l4)] []) (σ : am_M) (l1 : Int32) (l2 : Int32) (l3 : Int32) (l5 : Int32) (h : X8_readSteps_J90 n rE kont5 σ l1 l2 l3 l5 = some res) : V (wX8 σ) 90 [(0, .ref 0), (1, .int l1), (2, .int l2), (3, .int l3), (5, .int l5)] [] := by
  unfold X8_readSteps_J90 at h
  refine hV.run 3 [] (ws' := wX8 σ) (pc' := 5) (ls' := [(4, .int l5), (0, .ref 0), (1, .int l1), (2, .int l2), (3, .int l3), (5, .int l5)]) (st' := []) (ps := []) rfl trivial ?_
  refine hV.pick [1, 2, 3, 4, 0] (ls' := [(0, .ref 0), (1, .int l1), (2, .int l2), (3, .int l3), (4, .int l5)]) rfl ?_
  exact hk5 σ l1 l2 l3 l5 h
def X8_readSteps_J44 (n : Nat) (rE : am_M → Int32 → Int32 → Option (Int32 × am_M)) (kont5 : am_M → Int32 → Int32 → Int32 → Int32 → Option (Int32 × am_M)) (σ : am_M) (l1 : Int32) (l2 : Int32) (l3 : Int32) (l4 : Int32) : Option (Int32 × am_M) := (X8_readStep n rE σ l1).bind (fun q1 => if (q1 0 18) = 0 then (if l4 = (-1) then (X8_readSteps_J90 n rE kont5 q1 l1 l2 (σ 4 (1 : Int32).toNatClampNeg) (σ 4 (1 : Int32).toNatClampNeg)) else (if (40 + l4) < 0 ∨ 80 ≤ (40 + l4).toNatClampNeg then none else (X8_readSteps_J90 n rE kont5 (sC q1 11 (upd (q1 11) (40 + l4).toNatClampNeg (σ 4 (1 : Int32).toNatClampNeg))) l1 l2 l3 (σ 4 (1 : Int32).toNatClampNeg)))) else (some ((-1), q1)))
set_option maxRecDepth 100000 in
set_option maxHeartbeats 4000000 in
theorem p_X8_readSteps_J44 {dE : Nat} {l : Launch} {Post : Option Value → am_W → Prop} {V : am_VT} (hV : am_B l RX8 false (dE + 103) (am_cdT' tX8_readSteps) (am_rfL rfX8) (some .int) Post 36 V) (n : Nat) (rE : am_M → Int32 → Int32 → Option (Int32 × am_M)) (hrE : ∀ (l : Launch) (σ : am_M) (a1 a2 : Int32) (res : Int32 × am_M), rE σ a1 a2 = some res → am_Con l yX8_readSteps cX8_readSteps 6 (some .int) dE [.ref 0, .int a1, .int a2] (wX8 σ) (fun (r : Option Value) (w : am_W) => r = (some (.int res.1)) ∧ w = (wX8 res.2))) (res : (Int32 × am_M)) (hP : Post (some (.int res.1)) (wX8 res.2)) (kont5 : am_M → Int32 → Int32 → Int32 → Int32 → Option (Int32 × am_M)) (hk5 : ∀ (σ : am_M) (l1 : Int32) (l2 : Int32) (l3 : Int32) (l4 : Int32), kont5 σ l1 l2 l3 l4 = some res → V (wX8 σ) 5 [(0, .ref 0), (1, .int l1), (2, .int l2), (3, .int l3), (4, .int l4)] []) (σ : am_M) (l1 : Int32) (l2 : Int32) (l3 : Int32) (l4 : Int32) (h : X8_readSteps_J44 n rE kont5 σ l1 l2 l3 l4 = some res) : V (wX8 σ) 44 [(0, .ref 0), (1, .int l1), (2, .int l2), (3, .int l3), (4, .int l4)] [] := by
  unfold X8_readSteps_J44 at h
  refine hV.run 7 [] (ws' := wX8 σ) (pc' := 54) (ls' := [(5, .int (σ 4 (1 : Int32).toNatClampNeg)), (0, .ref 0), (1, .int l1), (2, .int l2), (3, .int l3), (4, .int l4)]) (st' := [.int l1, .ref 0]) (ps := [vp_in (1 : Int32) 2]) rfl ⟨(am_inc (by decide)), trivial⟩ ?_
  obtain ⟨q1, hq1, h⟩ := am_bind h
  refine hV.cOv (as := [.int l1]) (rest := []) (st := [.int l1, .ref 0]) (ws2 := wX8 q1) (pc2 := 57) kX8_310 (c_X8_readStep l n rE dE hrE σ l1 q1 hq1) rfl rfl (am_bB (j := 102) (k := 103) (e := dE) (by decide)) rfl rfl rfl rfl rfl rfl ?_
  by_cases c2 : (q1 0 18) = 0
  · rw [if_pos c2] at h
    by_cases c3 : l4 = (-1)
    · rw [if_pos c3] at h
      refine hV.run 9 [1, 0] (ws' := wX8 q1) (pc' := 90) (ls' := [(3, .int (σ 4 (1 : Int32).toNatClampNeg)), (5, .int (σ 4 (1 : Int32).toNatClampNeg)), (0, .ref 0), (1, .int l1), (2, .int l2), (4, .int l4)]) (st' := []) (ps := [(q1 0 18) = 0, l4 = (-1)]) rfl ⟨c2, c3, trivial⟩ ?_
      refine hV.pick [2, 3, 4, 0, 1] (ls' := [(0, .ref 0), (1, .int l1), (2, .int l2), (3, .int (σ 4 (1 : Int32).toNatClampNeg)), (5, .int (σ 4 (1 : Int32).toNatClampNeg))]) rfl ?_
      exact p_X8_readSteps_J90 hV n rE hrE res hP kont5 hk5 q1 l1 l2 (σ 4 (1 : Int32).toNatClampNeg) (σ 4 (1 : Int32).toNatClampNeg) h
    · rw [if_neg c3] at h
      by_cases g4 : (40 + l4) < 0 ∨ 80 ≤ (40 + l4).toNatClampNeg
      · rw [if_pos g4] at h; cases h
      rw [if_neg g4] at h
      refine hV.run 13 [1, 1] (ws' := wX8 (sC q1 11 (upd (q1 11) (40 + l4).toNatClampNeg (σ 4 (1 : Int32).toNatClampNeg)))) (pc' := 90) (ls' := [(5, .int (σ 4 (1 : Int32).toNatClampNeg)), (0, .ref 0), (1, .int l1), (2, .int l2), (3, .int l3), (4, .int l4)]) (st' := []) (ps := [(q1 0 18) = 0, ¬ l4 = (-1), vp_in (40 + l4) 80]) rfl ⟨c2, c3, g4, trivial⟩ ?_
      refine hV.pick [1, 2, 3, 4, 0] (ls' := [(0, .ref 0), (1, .int l1), (2, .int l2), (3, .int l3), (5, .int (σ 4 (1 : Int32).toNatClampNeg))]) rfl ?_
      exact p_X8_readSteps_J90 hV n rE hrE res hP kont5 hk5 (sC q1 11 (upd (q1 11) (40 + l4).toNatClampNeg (σ 4 (1 : Int32).toNatClampNeg))) l1 l2 l3 (σ 4 (1 : Int32).toNatClampNeg) h
  · rw [if_neg c2] at h
    refine hV.run 4 [0] (ws' := wX8 q1) (pc' := 65) (ls' := [(5, .int (σ 4 (1 : Int32).toNatClampNeg)), (0, .ref 0), (1, .int l1), (2, .int l2), (3, .int l3), (4, .int l4)]) (st' := [.int (-1)]) (ps := [¬ (q1 0 18) = 0]) rfl ⟨c2, trivial⟩ ?_
    cases h
    exact hV.ri rfl rfl rfl hP
def X8_readSteps_B5 (n : Nat) (rE : am_M → Int32 → Int32 → Option (Int32 × am_M)) (kont5 : am_M → Int32 → Int32 → Int32 → Int32 → Option (Int32 × am_M)) (σ : am_M) (l1 : Int32) (l2 : Int32) (l3 : Int32) (l4 : Int32) : Option (Int32 × am_M) := if (σ 0 18) = 0 then (if (σ 0 13) = 0 then (X8_readSteps_J97 n rE σ l2 l3 l4) else (if l2 = (-1) then (X8_readSteps_J44 n rE kont5 σ l1 l2 l3 l4) else (X8_is n σ 25).bind (fun q4 => if q4 = true then (X8_readSteps_J97 n rE σ l2 l3 l4) else (X8_is n σ 26).bind (fun q6 => if q6 = true then (X8_readSteps_J97 n rE σ l2 l3 l4) else (X8_readSteps_J44 n rE kont5 σ l1 l2 l3 l4))))) else (X8_readSteps_J97 n rE σ l2 l3 l4)
def X8_readSteps_L5 (n : Nat) (rE : am_M → Int32 → Int32 → Option (Int32 × am_M)) : Nat → am_M → Int32 → Int32 → Int32 → Int32 → Option (Int32 × am_M)
 | 0 => fun _ _ _ _ _ => none
 | k + 1 => fun σ l1 l2 l3 l4 => X8_readSteps_B5 n rE (X8_readSteps_L5 n rE k) σ l1 l2 l3 l4
set_option maxRecDepth 100000 in
set_option maxHeartbeats 4000000 in
theorem p_X8_readSteps_B5 {dE : Nat} {l : Launch} {Post : Option Value → am_W → Prop} {V : am_VT} (hV : am_B l RX8 false (dE + 103) (am_cdT' tX8_readSteps) (am_rfL rfX8) (some .int) Post 36 V) (n : Nat) (rE : am_M → Int32 → Int32 → Option (Int32 × am_M)) (hrE : ∀ (l : Launch) (σ : am_M) (a1 a2 : Int32) (res : Int32 × am_M), rE σ a1 a2 = some res → am_Con l yX8_readSteps cX8_readSteps 6 (some .int) dE [.ref 0, .int a1, .int a2] (wX8 σ) (fun (r : Option Value) (w : am_W) => r = (some (.int res.1)) ∧ w = (wX8 res.2))) (res : (Int32 × am_M)) (hP : Post (some (.int res.1)) (wX8 res.2)) (kont5 : am_M → Int32 → Int32 → Int32 → Int32 → Option (Int32 × am_M)) (hk5 : ∀ (σ : am_M) (l1 : Int32) (l2 : Int32) (l3 : Int32) (l4 : Int32), kont5 σ l1 l2 l3 l4 = some res → V (wX8 σ) 5 [(0, .ref 0), (1, .int l1), (2, .int l2), (3, .int l3), (4, .int l4)] []) (σ : am_M) (l1 : Int32) (l2 : Int32) (l3 : Int32) (l4 : Int32) (h : X8_readSteps_B5 n rE kont5 σ l1 l2 l3 l4 = some res) : V (wX8 σ) 5 [(0, .ref 0), (1, .int l1), (2, .int l2), (3, .int l3), (4, .int l4)] [] := by
  unfold X8_readSteps_B5 at h
  by_cases c1 : (σ 0 18) = 0
  · rw [if_pos c1] at h
    by_cases c2 : (σ 0 13) = 0
    · rw [if_pos c2] at h
      refine hV.run 6 [0, 1] (ws' := wX8 σ) (pc' := 97) (ls' := [(0, .ref 0), (1, .int l1), (2, .int l2), (3, .int l3), (4, .int l4)]) (st' := []) (ps := [(σ 0 18) = 0, (σ 0 13) = 0]) rfl ⟨c1, c2, trivial⟩ ?_
      refine hV.pick [0, 2, 3, 4] (ls' := [(0, .ref 0), (2, .int l2), (3, .int l3), (4, .int l4)]) rfl ?_
      exact p_X8_readSteps_J97 hV n rE hrE res hP σ l2 l3 l4 h
    · rw [if_neg c2] at h
      by_cases c3 : l2 = (-1)
      · rw [if_pos c3] at h
        refine hV.run 9 [0, 0, 1] (ws' := wX8 σ) (pc' := 44) (ls' := [(0, .ref 0), (1, .int l1), (2, .int l2), (3, .int l3), (4, .int l4)]) (st' := []) (ps := [(σ 0 18) = 0, ¬ (σ 0 13) = 0, l2 = (-1)]) rfl ⟨c1, c2, c3, trivial⟩ ?_
        exact p_X8_readSteps_J44 hV n rE hrE res hP kont5 hk5 σ l1 l2 l3 l4 h
      · rw [if_neg c3] at h
        refine hV.run 10 [0, 0, 0] (ws' := wX8 σ) (pc' := 25) (ls' := [(0, .ref 0), (1, .int l1), (2, .int l2), (3, .int l3), (4, .int l4)]) (st' := [.ref 0]) (ps := [(σ 0 18) = 0, ¬ (σ 0 13) = 0, ¬ l2 = (-1)]) rfl ⟨c1, c2, c3, trivial⟩ ?_
        refine hV.kSW 25 rfl rfl (by decide) ?_
        obtain ⟨q4, hq4, h⟩ := am_bind h
        refine hV.cOi (as := [.retAddr 25]) (rest := []) (st := [.retAddr 25, .ref 0]) (ws2 := wX8 σ) (pc2 := 31) kX8_234 (c_X8_is l n σ 25 q4 hq4) rfl rfl (am_bA (c := 5) (k := 103) (e := dE) (by decide)) rfl rfl rfl rfl rfl rfl ?_
        by_cases c5 : q4 = true
        · rw [if_pos c5] at h
          refine hV.run 1 [1] (ws' := wX8 σ) (pc' := 97) (ls' := [(0, .ref 0), (1, .int l1), (2, .int l2), (3, .int l3), (4, .int l4)]) (st' := []) (ps := [¬ (b2i q4) = 0]) rfl ⟨(b2i_t c5), trivial⟩ ?_
          refine hV.pick [0, 2, 3, 4] (ls' := [(0, .ref 0), (2, .int l2), (3, .int l3), (4, .int l4)]) rfl ?_
          exact p_X8_readSteps_J97 hV n rE hrE res hP σ l2 l3 l4 h
        · rw [if_neg c5] at h
          refine hV.run 2 [0] (ws' := wX8 σ) (pc' := 35) (ls' := [(0, .ref 0), (1, .int l1), (2, .int l2), (3, .int l3), (4, .int l4)]) (st' := [.ref 0]) (ps := [(b2i q4) = 0]) rfl ⟨(b2i_f c5), trivial⟩ ?_
          refine hV.kSW 26 rfl rfl (by decide) ?_
          obtain ⟨q6, hq6, h⟩ := am_bind h
          refine hV.cOi (as := [.retAddr 26]) (rest := []) (st := [.retAddr 26, .ref 0]) (ws2 := wX8 σ) (pc2 := 41) kX8_234 (c_X8_is l n σ 26 q6 hq6) rfl rfl (am_bA (c := 5) (k := 103) (e := dE) (by decide)) rfl rfl rfl rfl rfl rfl ?_
          by_cases c7 : q6 = true
          · rw [if_pos c7] at h
            refine hV.run 1 [1] (ws' := wX8 σ) (pc' := 97) (ls' := [(0, .ref 0), (1, .int l1), (2, .int l2), (3, .int l3), (4, .int l4)]) (st' := []) (ps := [¬ (b2i q6) = 0]) rfl ⟨(b2i_t c7), trivial⟩ ?_
            refine hV.pick [0, 2, 3, 4] (ls' := [(0, .ref 0), (2, .int l2), (3, .int l3), (4, .int l4)]) rfl ?_
            exact p_X8_readSteps_J97 hV n rE hrE res hP σ l2 l3 l4 h
          · rw [if_neg c7] at h
            refine hV.run 1 [0] (ws' := wX8 σ) (pc' := 44) (ls' := [(0, .ref 0), (1, .int l1), (2, .int l2), (3, .int l3), (4, .int l4)]) (st' := []) (ps := [(b2i q6) = 0]) rfl ⟨(b2i_f c7), trivial⟩ ?_
            exact p_X8_readSteps_J44 hV n rE hrE res hP kont5 hk5 σ l1 l2 l3 l4 h
  · rw [if_neg c1] at h
    refine hV.run 3 [1] (ws' := wX8 σ) (pc' := 97) (ls' := [(0, .ref 0), (1, .int l1), (2, .int l2), (3, .int l3), (4, .int l4)]) (st' := []) (ps := [¬ (σ 0 18) = 0]) rfl ⟨c1, trivial⟩ ?_
    refine hV.pick [0, 2, 3, 4] (ls' := [(0, .ref 0), (2, .int l2), (3, .int l3), (4, .int l4)]) rfl ?_
    exact p_X8_readSteps_J97 hV n rE hrE res hP σ l2 l3 l4 h
theorem p_X8_readSteps_L5 {dE : Nat} {l : Launch} {Post : Option Value → am_W → Prop} {V : am_VT} (hV : am_B l RX8 false (dE + 103) (am_cdT' tX8_readSteps) (am_rfL rfX8) (some .int) Post 36 V) (n : Nat) (rE : am_M → Int32 → Int32 → Option (Int32 × am_M)) (hrE : ∀ (l : Launch) (σ : am_M) (a1 a2 : Int32) (res : Int32 × am_M), rE σ a1 a2 = some res → am_Con l yX8_readSteps cX8_readSteps 6 (some .int) dE [.ref 0, .int a1, .int a2] (wX8 σ) (fun (r : Option Value) (w : am_W) => r = (some (.int res.1)) ∧ w = (wX8 res.2))) (res : (Int32 × am_M)) (hP : Post (some (.int res.1)) (wX8 res.2)) : ∀ (k : Nat) (σ : am_M) (l1 : Int32) (l2 : Int32) (l3 : Int32) (l4 : Int32) (h : X8_readSteps_L5 n rE k σ l1 l2 l3 l4 = some res), V (wX8 σ) 5 [(0, .ref 0), (1, .int l1), (2, .int l2), (3, .int l3), (4, .int l4)] [] := by
  intro k
  induction k with
  | zero => intro σ l1 l2 l3 l4 h; cases h
  | succ k ih => intro σ l1 l2 l3 l4 h; exact p_X8_readSteps_B5 hV n rE hrE res hP _ ih σ l1 l2 l3 l4 h
def X8_readSteps (n : Nat) (rE : am_M → Int32 → Int32 → Option (Int32 × am_M)) (σ : am_M) (a1 : Int32) (a2 : Int32) : Option (Int32 × am_M) := X8_readSteps_L5 n rE n σ a1 a2 (-1) (-1)
set_option maxRecDepth 100000 in
set_option maxHeartbeats 4000000 in
theorem c_X8_readSteps (l : Launch) (n : Nat) (rE : am_M → Int32 → Int32 → Option (Int32 × am_M)) (dE : Nat) (hrE : ∀ (l : Launch) (σ : am_M) (a1 a2 : Int32) (res : Int32 × am_M), rE σ a1 a2 = some res → am_Con l yX8_readSteps cX8_readSteps 6 (some .int) dE [.ref 0, .int a1, .int a2] (wX8 σ) (fun (r : Option Value) (w : am_W) => r = (some (.int res.1)) ∧ w = (wX8 res.2))) (σ : am_M) (a1 : Int32) (a2 : Int32) (res : (Int32 × am_M)) (h : X8_readSteps n rE σ a1 a2 = some res) : am_Con l yX8_readSteps cX8_readSteps 6 (some .int) (dE + 103) [.ref 0, .int a1, .int a2] (wX8 σ) (fun (r : Option Value) (w : am_W) => r = (some (.int res.1)) ∧ w = (wX8 res.2)) := by
  refine am_metn (n0 := 36) (own := RX8) (cd := am_cdT' tX8_readSteps) (rf := am_rfL rfX8) (ini := false) rfl (by decide +kernel) rfl (by decide) dX8_readSteps rfX8_ok (Nat.le_of_ble_eq_true rfl) ?_
  intro V hV
  have hP : (fun (r : Option Value) (w : am_W) => r = (some (.int res.1)) ∧ w = (wX8 res.2)) (some (.int res.1)) (wX8 res.2) := ⟨rfl, rfl⟩
  show V (wX8 σ) 0 [(0, .ref 0), (1, .int a1), (2, .int a2)] []
  unfold X8_readSteps at h
  refine hV.run 4 [] (ws' := wX8 σ) (pc' := 5) (ls' := [(4, .int (-1)), (3, .int (-1)), (0, .ref 0), (1, .int a1), (2, .int a2)]) (st' := []) (ps := []) rfl trivial ?_
  refine hV.pick [2, 3, 4, 1, 0] (ls' := [(0, .ref 0), (1, .int a1), (2, .int a2), (3, .int (-1)), (4, .int (-1))]) rfl ?_
  exact p_X8_readSteps_L5 hV n rE hrE res hP n σ a1 a2 (-1) (-1) h

