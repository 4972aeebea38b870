def wX7 (p c : Nat) (χ : Nat → Nat) (σ : am_M) (τ : Nat → Int64) : am_W := [.inr (7, [.ref 1, .ref c, .int (σ 0 2), .int (σ 0 3), .int (σ 0 4), .int (σ 0 5), .ref 26, .ref 46, .ref 60, .int (σ 0 9), .int (σ 0 10), .long (τ 0)]),
  .inr (1, [.ref 2, .ref p, .int (σ 1 2), .int (σ 1 3), .ref 15, .ref 16, .int (σ 1 6), .ref 17, .int (σ 1 8), .int (σ 1 9), .int (σ 1 10)]),
  .inr (5, [.ref 3, .int (σ 2 1), .ref 4, .ref 5, .ref 6, .int (σ 2 5), .int (σ 2 6)]),
  .inl (0, 700, .inl (σ 3)),
  .inl (0, 701, .inl (σ 4)),
  .inl (0, 701, .inl (σ 5)),
  .inl (0, 701, .inl (σ 6)),
  .inr (3, [.ref 8, .ref 9, .ref 10, .ref 11, .ref 12, .ref 13, .ref 14, .int (σ 7 7), .int (σ 7 8), .int (σ 7 9)]),
  .inl (0, 40, .inl (σ 8)),
  .inl (0, 40, .inl (σ 9)),
  .inl (0, 40, .inl (σ 10)),
  .inl (0, 40, .inl (σ 11)),
  .inl (0, 40, .inl (σ 12)),
  .inl (0, 120, .inl (σ 13)),
  .inl (0, 900, .inl (σ 14)),
  .inl (0, 4, .inl (σ 15)),
  .inl (0, 4, .inl (σ 16)),
  .inl (0, 40, .inl (σ 17)),
  .inr (3, [.ref 19, .ref 20, .ref 21, .ref 22, .ref 23, .ref 24, .ref 25, .int (σ 18 7), .int (σ 18 8), .int (σ 18 9)]),
  .inl (0, 40, .inl (σ 19)),
  .inl (0, 40, .inl (σ 20)),
  .inl (0, 40, .inl (σ 21)),
  .inl (0, 40, .inl (σ 22)),
  .inl (0, 40, .inl (σ 23)),
  .inl (0, 120, .inl (σ 24)),
  .inl (0, 900, .inl (σ 25)),
  .inr (4, [.ref 27, .ref 38, .ref 39, .ref 40, .ref 41, .ref 42, .ref 43, .ref 44, .ref 45, .int (σ 26 9), .int (σ 26 10), .int (σ 26 11), .int (σ 26 12), .int (σ 26 13), .int (σ 26 14), .long (τ 26)]),
  .inr (2, [.ref (χ 27), .int (σ 27 1), .int (σ 27 2), .int (σ 27 3), .int (σ 27 4), .long (τ 27), .ref 28, .ref 29, .ref 34, .ref 35, .ref 36, .ref 37, .int (σ 27 12), .int (σ 27 13), .int (σ 27 14), .int (σ 27 15)]),
  .inl (0, 104, .inl (σ 28)),
  .inr (6, [.ref 30, .ref 31, .ref 32, .ref 33, .int (σ 29 4)]),
  .inl (0, 320, .inl (σ 30)),
  .inl (0, 320, .inl (σ 31)),
  .inl (0, 320, .inl (σ 32)),
  .inl (0, 320, .inl (σ 33)),
  .inl (0, 40, .inl (σ 34)),
  .inl (0, 8, .inl (σ 35)),
  .inl (0, 8, .inl (σ 36)),
  .inl (0, 8, .inl (σ 37)),
  .inl (0, 20800, .inl (σ 38)),
  .inl (0, 59700, .inl (σ 39)),
  .inl (0, 201, .inl (σ 40)),
  .inl (0, 200, .inl (σ 41)),
  .inl (0, 512, .inl (σ 42)),
  .inl (0, 200, .inl (σ 43)),
  .inl (0, 200, .inl (σ 44)),
  .inl (0, 320, .inl (σ 45)),
  .inr (0, [.ref 47, .int (σ 46 1), .long (τ 46), .ref 58, .int (σ 46 4), .ref 59, .int (σ 46 6)]),
  .inr (2, [.ref (χ 47), .int (σ 47 1), .int (σ 47 2), .int (σ 47 3), .int (σ 47 4), .long (τ 47), .ref 48, .ref 49, .ref 54, .ref 55, .ref 56, .ref 57, .int (σ 47 12), .int (σ 47 13), .int (σ 47 14), .int (σ 47 15)]),
  .inl (0, 104, .inl (σ 48)),
  .inr (6, [.ref 50, .ref 51, .ref 52, .ref 53, .int (σ 49 4)]),
  .inl (0, 320, .inl (σ 50)),
  .inl (0, 320, .inl (σ 51)),
  .inl (0, 320, .inl (σ 52)),
  .inl (0, 320, .inl (σ 53)),
  .inl (0, 40, .inl (σ 54)),
  .inl (0, 8, .inl (σ 55)),
  .inl (0, 8, .inl (σ 56)),
  .inl (0, 8, .inl (σ 57)),
  .inl (0, 320, .inl (σ 58)),
  .inl (0, 8, .inl (σ 59)),
  .inr (0, [.ref 61, .int (σ 60 1), .long (τ 60), .ref 72, .int (σ 60 4), .ref 73, .int (σ 60 6)]),
  .inr (2, [.ref (χ 61), .int (σ 61 1), .int (σ 61 2), .int (σ 61 3), .int (σ 61 4), .long (τ 61), .ref 62, .ref 63, .ref 68, .ref 69, .ref 70, .ref 71, .int (σ 61 12), .int (σ 61 13), .int (σ 61 14), .int (σ 61 15)]),
  .inl (0, 104, .inl (σ 62)),
  .inr (6, [.ref 64, .ref 65, .ref 66, .ref 67, .int (σ 63 4)]),
  .inl (0, 320, .inl (σ 64)),
  .inl (0, 320, .inl (σ 65)),
  .inl (0, 320, .inl (σ 66)),
  .inl (0, 320, .inl (σ 67)),
  .inl (0, 40, .inl (σ 68)),
  .inl (0, 8, .inl (σ 69)),
  .inl (0, 8, .inl (σ 70)),
  .inl (0, 8, .inl (σ 71)),
  .inl (0, 320, .inl (σ 72)),
  .inl (0, 8, .inl (σ 73))]
def X7_feed (n : Nat) (σ : am_M) (τ : Nat → Int64) (χ : Nat → Nat) (a1 : Int32) (a2 : Int32) (a3 : Int32) (a4 : Int32) (a5 : Int32) : Option (Int32 × am_M × (Nat → Int64) × (Nat → Nat)) := if ((σ 2 1) + 20) ≤ 700 then (X5_add n (am_sub σ 2) a1).bind (fun q2 => (X5_add n (am_sub (am_put σ 2 5 q2) 2) a2).bind (fun q3 => (X5_add n (am_sub (am_put (am_put σ 2 5 q2) 2 5 q3) 2) a3).bind (fun q4 => (X5_add n (am_sub (am_put (am_put (am_put σ 2 5 q2) 2 5 q3) 2 5 q4) 2) a4).bind (fun q5 => (X5_add n (am_sub (am_put (am_put (am_put (am_put σ 2 5 q2) 2 5 q3) 2 5 q4) 2 5 q5) 2) a5).bind (fun q6 => some ((am_put (am_put (am_put (am_put (am_put σ 2 5 q2) 2 5 q3) 2 5 q4) 2 5 q5) 2 5 q6) 2 1, am_put (am_put (am_put (am_put (am_put σ 2 5 q2) 2 5 q3) 2 5 q4) 2 5 q5) 2 5 q6, τ, χ)))))) else (some ((-1), σ, τ, χ))
set_option maxRecDepth 100000 in
set_option maxHeartbeats 4000000 in
theorem c_X7_feed (l : Launch) (n : Nat) (σ : am_M) (τ : Nat → Int64) (χ : Nat → Nat) (a1 : Int32) (a2 : Int32) (a3 : Int32) (a4 : Int32) (a5 : Int32) (res : (Int32 × am_M × (Nat → Int64) × (Nat → Nat))) (h : X7_feed n σ τ χ a1 a2 a3 a4 a5 = some res) : am_Con l yX7_feed cX7_feed 7 (some .int) 3 [.ref 0, .int a1, .int a2, .int a3, .int a4, .int a5] (wX7 7 18 χ σ τ) (fun (r : Option Value) (w : am_W) => r = (some (.int res.1)) ∧ w = (wX7 7 18 res.2.2.2 res.2.1 res.2.2.1)) := by
  refine am_metn (n0 := 74) (own := RX7) (cd := am_cdT' tX7_feed) (rf := am_rfL rfX7) (ini := false) rfl (by decide +kernel) rfl (by decide) dX7_feed rfX7_ok (Nat.le_of_ble_eq_true rfl) ?_
  intro V hV
  have hP : (fun (r : Option Value) (w : am_W) => r = (some (.int res.1)) ∧ w = (wX7 7 18 res.2.2.2 res.2.1 res.2.2.1)) (some (.int res.1)) (wX7 7 18 res.2.2.2 res.2.1 res.2.2.1) := ⟨rfl, rfl⟩
  show V (wX7 7 18 χ σ τ) 0 [(0, .ref 0), (1, .int a1), (2, .int a2), (3, .int a3), (4, .int a4), (5, .int a5)] []
  unfold X7_feed at h
  by_cases c1 : ((σ 2 1) + 20) ≤ 700
  · rw [if_pos c1] at h
    refine hV.run 12 [1] (ws' := wX7 7 18 χ σ τ) (pc' := 28) (ls' := [(6, .ref 2), (0, .ref 0), (1, .int a1), (2, .int a2), (3, .int a3), (4, .int a4), (5, .int a5)]) (st' := [.int a1, .ref 2]) (ps := [((σ 2 1) + 20) ≤ 700]) rfl ⟨c1, trivial⟩ ?_
    obtain ⟨q2, hq2, h⟩ := am_bind h
    refine hV.cBv 2 5 [] (as := [.int a1]) (rest := []) (st := [.int a1, .ref 2]) (ws2 := wX7 7 18 χ (am_put σ 2 5 q2) τ) (pc2 := 31) kX7_53 (c_X5_add l n (am_sub σ 2) a1 q2 hq2) rfl rfl rfl rfl rfl rfl rfl rfl rfl rfl rfl rfl rfl rfl ?_
    refine hV.run 2 [] (ws' := wX7 7 18 χ (am_put σ 2 5 q2) τ) (pc' := 34) (ls' := [(6, .ref 2), (0, .ref 0), (1, .int a1), (2, .int a2), (3, .int a3), (4, .int a4), (5, .int a5)]) (st' := [.int a2, .ref 2]) (ps := []) rfl trivial ?_
    obtain ⟨q3, hq3, h⟩ := am_bind h
    refine hV.cBv 2 5 [] (as := [.int a2]) (rest := []) (st := [.int a2, .ref 2]) (ws2 := wX7 7 18 χ (am_put (am_put σ 2 5 q2) 2 5 q3) τ) (pc2 := 37) kX7_53 (c_X5_add l n (am_sub (am_put σ 2 5 q2) 2) a2 q3 hq3) rfl rfl rfl rfl rfl rfl rfl rfl rfl rfl rfl rfl rfl rfl ?_
    refine hV.run 2 [] (ws' := wX7 7 18 χ (am_put (am_put σ 2 5 q2) 2 5 q3) τ) (pc' := 40) (ls' := [(6, .ref 2), (0, .ref 0), (1, .int a1), (2, .int a2), (3, .int a3), (4, .int a4), (5, .int a5)]) (st' := [.int a3, .ref 2]) (ps := []) rfl trivial ?_
    obtain ⟨q4, hq4, h⟩ := am_bind h
    refine hV.cBv 2 5 [] (as := [.int a3]) (rest := []) (st := [.int a3, .ref 2]) (ws2 := wX7 7 18 χ (am_put (am_put (am_put σ 2 5 q2) 2 5 q3) 2 5 q4) τ) (pc2 := 43) kX7_53 (c_X5_add l n (am_sub (am_put (am_put σ 2 5 q2) 2 5 q3) 2) a3 q4 hq4) rfl rfl rfl rfl rfl rfl rfl rfl rfl rfl rfl rfl rfl rfl ?_
    refine hV.run 2 [] (ws' := wX7 7 18 χ (am_put (am_put (am_put σ 2 5 q2) 2 5 q3) 2 5 q4) τ) (pc' := 47) (ls' := [(6, .ref 2), (0, .ref 0), (1, .int a1), (2, .int a2), (3, .int a3), (4, .int a4), (5, .int a5)]) (st' := [.int a4, .ref 2]) (ps := []) rfl trivial ?_
    obtain ⟨q5, hq5, h⟩ := am_bind h
    refine hV.cBv 2 5 [] (as := [.int a4]) (rest := []) (st := [.int a4, .ref 2]) (ws2 := wX7 7 18 χ (am_put (am_put (am_put (am_put σ 2 5 q2) 2 5 q3) 2 5 q4) 2 5 q5) τ) (pc2 := 50) kX7_53 (c_X5_add l n (am_sub (am_put (am_put (am_put σ 2 5 q2) 2 5 q3) 2 5 q4) 2) a4 q5 hq5) rfl rfl rfl rfl rfl rfl rfl rfl rfl rfl rfl rfl rfl rfl ?_
    refine hV.run 2 [] (ws' := wX7 7 18 χ (am_put (am_put (am_put (am_put σ 2 5 q2) 2 5 q3) 2 5 q4) 2 5 q5) τ) (pc' := 54) (ls' := [(6, .ref 2), (0, .ref 0), (1, .int a1), (2, .int a2), (3, .int a3), (4, .int a4), (5, .int a5)]) (st' := [.int a5, .ref 2]) (ps := []) rfl trivial ?_
    obtain ⟨q6, hq6, h⟩ := am_bind h
    refine hV.cBv 2 5 [] (as := [.int a5]) (rest := []) (st := [.int a5, .ref 2]) (ws2 := wX7 7 18 χ (am_put (am_put (am_put (am_put (am_put σ 2 5 q2) 2 5 q3) 2 5 q4) 2 5 q5) 2 5 q6) τ) (pc2 := 57) kX7_53 (c_X5_add l n (am_sub (am_put (am_put (am_put (am_put σ 2 5 q2) 2 5 q3) 2 5 q4) 2 5 q5) 2) a5 q6 hq6) rfl rfl rfl rfl rfl rfl rfl rfl rfl rfl rfl rfl rfl rfl ?_
    refine hV.run 2 [] (ws' := wX7 7 18 χ (am_put (am_put (am_put (am_put (am_put σ 2 5 q2) 2 5 q3) 2 5 q4) 2 5 q5) 2 5 q6) τ) (pc' := 62) (ls' := [(6, .ref 2), (0, .ref 0), (1, .int a1), (2, .int a2), (3, .int a3), (4, .int a4), (5, .int a5)]) (st' := [.int ((am_put (am_put (am_put (am_put (am_put σ 2 5 q2) 2 5 q3) 2 5 q4) 2 5 q5) 2 5 q6) 2 1)]) (ps := []) rfl trivial ?_
    cases h
    exact hV.ri rfl rfl rfl hP
  · rw [if_neg c1] at h
    refine hV.run 11 [0] (ws' := wX7 7 18 χ σ τ) (pc' := 24) (ls' := [(6, .ref 2), (0, .ref 0), (1, .int a1), (2, .int a2), (3, .int a3), (4, .int a4), (5, .int a5)]) (st' := [.int (-1)]) (ps := [¬ ((σ 2 1) + 20) ≤ 700]) rfl ⟨c1, trivial⟩ ?_
    cases h
    exact hV.ri rfl rfl rfl hP

def X7_fault (σ : am_M) : Int32 := (σ 1 3)
set_option maxRecDepth 100000 in
set_option maxHeartbeats 4000000 in
theorem c_X7_fault (l : Launch) (σ : am_M) (τ : Nat → Int64) (χ : Nat → Nat) : am_Con l yX7_fault cX7_fault 1 (some .int) 1 [.ref 0] (wX7 7 18 χ σ τ) (fun (r : Option Value) (w : am_W) => r = (some (.int (X7_fault σ))) ∧ w = (wX7 7 18 χ σ τ)) := by
  obtain ⟨res, h⟩ : ∃ res, (X7_fault σ) = res := ⟨_, rfl⟩
  rw [h]
  refine am_metn (n0 := 74) (own := RX7) (cd := am_cdT' tX7_fault) (rf := am_rfL rfX7) (ini := false) rfl (by decide +kernel) rfl (by decide) dX7_fault rfX7_ok (Nat.le_of_ble_eq_true rfl) ?_
  intro V hV
  have hP : (fun (r : Option Value) (w : am_W) => r = (some (.int res)) ∧ w = (wX7 7 18 χ σ τ)) (some (.int res)) (wX7 7 18 χ σ τ) := ⟨rfl, rfl⟩
  show V (wX7 7 18 χ σ τ) 0 [(0, .ref 0)] []
  unfold X7_fault at h
  refine hV.run 3 [] (ws' := wX7 7 18 χ σ τ) (pc' := 7) (ls' := [(0, .ref 0)]) (st' := [.int (σ 1 3)]) (ps := []) rfl trivial ?_
  subst h
  exact hV.ri rfl rfl rfl hP

def X7_world_J57 (σ : am_M) (τ : Nat → Int64) (χ : Nat → Nat) (l1 : Int32) (l2 : Int32) (l3 : Int32) (l4 : Int32) : Option (Bool × am_M × (Nat → Int64) × (Nat → Nat)) := some (true, sC σ 0 (am_u (am_u (am_u (am_u (σ 0) 2 l1) 3 l2) 4 l3) 5 l4), τ, χ)
set_option maxRecDepth 100000 in
set_option maxHeartbeats 4000000 in
theorem p_X7_world_J57 {l : Launch} {Post : Option Value → am_W → Prop} {V : am_VT} (hV : am_B l RX7 false 2 (am_cdT' tX7_world) (am_rfL rfX7) (some .boolean) Post 74 V) (res : (Bool × am_M × (Nat → Int64) × (Nat → Nat))) (hP : Post (some (.int (b2i res.1))) (wX7 7 18 res.2.2.2 res.2.1 res.2.2.1)) (σ : am_M) (τ : Nat → Int64) (χ : Nat → Nat) (l1 : Int32) (l2 : Int32) (l3 : Int32) (l4 : Int32) (h : X7_world_J57 σ τ χ l1 l2 l3 l4 = some res) : V (wX7 7 18 χ σ τ) 57 [(0, .ref 0), (1, .int l1), (2, .int l2), (3, .int l3), (4, .int l4)] [] := by
  unfold X7_world_J57 at h
  refine hV.run 13 [] (ws' := wX7 7 18 χ (sC σ 0 (am_u (am_u (am_u (am_u (σ 0) 2 l1) 3 l2) 4 l3) 5 l4)) τ) (pc' := 79) (ls' := [(0, .ref 0), (1, .int l1), (2, .int l2), (3, .int l3), (4, .int l4)]) (st' := [.int 1]) (ps := []) rfl trivial ?_
  cases h
  exact hV.rz rfl rfl rfl (Or.inr rfl) hP
def X7_world (σ : am_M) (τ : Nat → Int64) (χ : Nat → Nat) (a1 : Int32) (a2 : Int32) (a3 : Int32) (a4 : Int32) : Option (Bool × am_M × (Nat → Int64) × (Nat → Nat)) := if a1 < 2 then (some (false, σ, τ, χ)) else (if 8 < a1 then (some (false, σ, τ, χ)) else (if (X7_isNoRoom a2) = true then (some (false, σ, τ, χ)) else (if a3 < 0 then (some (false, σ, τ, χ)) else (if 99 < a3 then (some (false, σ, τ, χ)) else (if a4 < 0 then (some (false, σ, τ, χ)) else (if a4 ≤ 99 then (if a1 = (σ 0 2) then (X7_world_J57 σ τ χ a1 a2 a3 a4) else (X7_world_J57 (sC σ 0 (am_u (σ 0) 9 0)) τ χ a1 a2 a3 a4)) else (some (false, σ, τ, χ))))))))
set_option maxRecDepth 100000 in
set_option maxHeartbeats 4000000 in
theorem c_X7_world (l : Launch) (σ : am_M) (τ : Nat → Int64) (χ : Nat → Nat) (a1 : Int32) (a2 : Int32) (a3 : Int32) (a4 : Int32) (res : (Bool × am_M × (Nat → Int64) × (Nat → Nat))) (h : X7_world σ τ χ a1 a2 a3 a4 = some res) : am_Con l yX7_world cX7_world 5 (some .boolean) 2 [.ref 0, .int a1, .int a2, .int a3, .int a4] (wX7 7 18 χ σ τ) (fun (r : Option Value) (w : am_W) => r = (some (.int (b2i res.1))) ∧ w = (wX7 7 18 res.2.2.2 res.2.1 res.2.2.1)) := by
  refine am_metn (n0 := 74) (own := RX7) (cd := am_cdT' tX7_world) (rf := am_rfL rfX7) (ini := false) rfl (by decide +kernel) rfl (by decide) dX7_world rfX7_ok (Nat.le_of_ble_eq_true rfl) ?_
  intro V hV
  have hP : (fun (r : Option Value) (w : am_W) => r = (some (.int (b2i res.1))) ∧ w = (wX7 7 18 res.2.2.2 res.2.1 res.2.2.1)) (some (.int (b2i res.1))) (wX7 7 18 res.2.2.2 res.2.1 res.2.2.1) := ⟨rfl, rfl⟩
  show V (wX7 7 18 χ σ τ) 0 [(0, .ref 0), (1, .int a1), (2, .int a2), (3, .int a3), (4, .int a4)] []
  unfold X7_world at h
  by_cases c1 : a1 < 2
  · rw [if_pos c1] at h
    refine hV.run 4 [1] (ws' := wX7 7 18 χ σ τ) (pc' := 19) (ls' := [(0, .ref 0), (1, .int a1), (2, .int a2), (3, .int a3), (4, .int a4)]) (st' := [.int 0]) (ps := [a1 < 2]) rfl ⟨c1, trivial⟩ ?_
    cases h
    exact hV.rz rfl rfl rfl (Or.inl rfl) hP
  · rw [if_neg c1] at h
    by_cases c2 : 8 < a1
    · rw [if_pos c2] at h
      refine hV.run 7 [0, 1] (ws' := wX7 7 18 χ σ τ) (pc' := 19) (ls' := [(0, .ref 0), (1, .int a1), (2, .int a2), (3, .int a3), (4, .int a4)]) (st' := [.int 0]) (ps := [¬ a1 < 2, 8 < a1]) rfl ⟨c1, c2, trivial⟩ ?_
      cases h
      exact hV.rz rfl rfl rfl (Or.inl rfl) hP
    · rw [if_neg c2] at h
      refine hV.run 7 [0, 0] (ws' := wX7 7 18 χ σ τ) (pc' := 12) (ls' := [(0, .ref 0), (1, .int a1), (2, .int a2), (3, .int a3), (4, .int a4)]) (st' := [.int a2]) (ps := [¬ a1 < 2, ¬ 8 < a1]) rfl ⟨c1, c2, trivial⟩ ?_
      refine hV.cSi (as := [.int a2]) (js := []) (rest := []) (st := [.int a2]) (ws2 := wX7 7 18 χ σ τ) (pc2 := 15) kX7_85 (c_X7_isNoRoom l a2) rfl rfl rfl rfl rfl rfl rfl rfl rfl rfl ?_
      by_cases c3 : (X7_isNoRoom a2) = true
      · rw [if_pos c3] at h
        refine hV.run 2 [0] (ws' := wX7 7 18 χ σ τ) (pc' := 19) (ls' := [(0, .ref 0), (1, .int a1), (2, .int a2), (3, .int a3), (4, .int a4)]) (st' := [.int 0]) (ps := [¬ (b2i (X7_isNoRoom a2)) = 0]) rfl ⟨(b2i_t c3), trivial⟩ ?_
        cases h
        exact hV.rz rfl rfl rfl (Or.inl rfl) hP
      · rw [if_neg c3] at h
        by_cases c4 : a3 < 0
        · rw [if_pos c4] at h
          refine hV.run 4 [1, 1] (ws' := wX7 7 18 χ σ τ) (pc' := 43) (ls' := [(0, .ref 0), (1, .int a1), (2, .int a2), (3, .int a3), (4, .int a4)]) (st' := [.int 0]) (ps := [(b2i (X7_isNoRoom a2)) = 0, a3 < 0]) rfl ⟨(b2i_f c3), c4, trivial⟩ ?_
          cases h
          exact hV.rz rfl rfl rfl (Or.inl rfl) hP
        · rw [if_neg c4] at h
          by_cases c5 : 99 < a3
          · rw [if_pos c5] at h
            refine hV.run 7 [1, 0, 1] (ws' := wX7 7 18 χ σ τ) (pc' := 43) (ls' := [(0, .ref 0), (1, .int a1), (2, .int a2), (3, .int a3), (4, .int a4)]) (st' := [.int 0]) (ps := [(b2i (X7_isNoRoom a2)) = 0, ¬ a3 < 0, 99 < a3]) rfl ⟨(b2i_f c3), c4, c5, trivial⟩ ?_
            cases h
            exact hV.rz rfl rfl rfl (Or.inl rfl) hP
          · rw [if_neg c5] at h
            by_cases c6 : a4 < 0
            · rw [if_pos c6] at h
              refine hV.run 9 [1, 0, 0, 1] (ws' := wX7 7 18 χ σ τ) (pc' := 43) (ls' := [(0, .ref 0), (1, .int a1), (2, .int a2), (3, .int a3), (4, .int a4)]) (st' := [.int 0]) (ps := [(b2i (X7_isNoRoom a2)) = 0, ¬ a3 < 0, ¬ 99 < a3, a4 < 0]) rfl ⟨(b2i_f c3), c4, c5, c6, trivial⟩ ?_
              cases h
              exact hV.rz rfl rfl rfl (Or.inl rfl) hP
            · rw [if_neg c6] at h
              by_cases c7 : a4 ≤ 99
              · rw [if_pos c7] at h
                by_cases c8 : a1 = (σ 0 2)
                · rw [if_pos c8] at h
                  refine hV.run 15 [1, 0, 0, 0, 1, 1] (ws' := wX7 7 18 χ σ τ) (pc' := 57) (ls' := [(0, .ref 0), (1, .int a1), (2, .int a2), (3, .int a3), (4, .int a4)]) (st' := []) (ps := [(b2i (X7_isNoRoom a2)) = 0, ¬ a3 < 0, ¬ 99 < a3, ¬ a4 < 0, a4 ≤ 99, a1 = (σ 0 2)]) rfl ⟨(b2i_f c3), c4, c5, c6, c7, c8, trivial⟩ ?_
                  exact p_X7_world_J57 hV res hP σ τ χ a1 a2 a3 a4 h
                · rw [if_neg c8] at h
                  refine hV.run 18 [1, 0, 0, 0, 1, 0] (ws' := wX7 7 18 χ (sC σ 0 (am_u (σ 0) 9 0)) τ) (pc' := 57) (ls' := [(0, .ref 0), (1, .int a1), (2, .int a2), (3, .int a3), (4, .int a4)]) (st' := []) (ps := [(b2i (X7_isNoRoom a2)) = 0, ¬ a3 < 0, ¬ 99 < a3, ¬ a4 < 0, a4 ≤ 99, ¬ a1 = (σ 0 2), (0 : Int32) = 0 ∨ (0 : Int32) = 1]) rfl ⟨(b2i_f c3), c4, c5, c6, c7, c8, (Or.inl rfl), trivial⟩ ?_
                  exact p_X7_world_J57 hV res hP (sC σ 0 (am_u (σ 0) 9 0)) τ χ a1 a2 a3 a4 h
              · rw [if_neg c7] at h
                refine hV.run 12 [1, 0, 0, 0, 0] (ws' := wX7 7 18 χ σ τ) (pc' := 43) (ls' := [(0, .ref 0), (1, .int a1), (2, .int a2), (3, .int a3), (4, .int a4)]) (st' := [.int 0]) (ps := [(b2i (X7_isNoRoom a2)) = 0, ¬ a3 < 0, ¬ 99 < a3, ¬ a4 < 0, ¬ a4 ≤ 99]) rfl ⟨(b2i_f c3), c4, c5, c6, c7, trivial⟩ ?_
                cases h
                exact hV.rz rfl rfl rfl (Or.inl rfl) hP

def X7_isNoHand (σ : am_M) (a1 : Int32) : Bool := if a1 < 0 then (true) else (if a1 < (σ 0 2) then (false) else (true))
set_option maxRecDepth 100000 in
set_option maxHeartbeats 4000000 in
theorem c_X7_isNoHand (l : Launch) (σ : am_M) (τ : Nat → Int64) (χ : Nat → Nat) (a1 : Int32) : am_Con l yX7_isNoHand cX7_isNoHand 2 (some .boolean) 1 [.ref 0, .int a1] (wX7 7 18 χ σ τ) (fun (r : Option Value) (w : am_W) => r = (some (.int (b2i (X7_isNoHand σ a1)))) ∧ w = (wX7 7 18 χ σ τ)) := by
  obtain ⟨res, h⟩ : ∃ res, (X7_isNoHand σ a1) = res := ⟨_, rfl⟩
  rw [h]
  refine am_metn (n0 := 74) (own := RX7) (cd := am_cdT' tX7_isNoHand) (rf := am_rfL rfX7) (ini := false) rfl (by decide +kernel) rfl (by decide) dX7_isNoHand rfX7_ok (Nat.le_of_ble_eq_true rfl) ?_
  intro V hV
  have hP : (fun (r : Option Value) (w : am_W) => r = (some (.int (b2i res))) ∧ w = (wX7 7 18 χ σ τ)) (some (.int (b2i res))) (wX7 7 18 χ σ τ) := ⟨rfl, rfl⟩
  show V (wX7 7 18 χ σ τ) 0 [(0, .ref 0), (1, .int a1)] []
  unfold X7_isNoHand at h
  by_cases c1 : a1 < 0
  · rw [if_pos c1] at h
    refine hV.run 4 [1] (ws' := wX7 7 18 χ σ τ) (pc' := 17) (ls' := [(0, .ref 0), (1, .int a1)]) (st' := [.int 1]) (ps := [a1 < 0]) rfl ⟨c1, trivial⟩ ?_
    subst h
    exact hV.rz rfl rfl rfl (Or.inr rfl) hP
  · rw [if_neg c1] at h
    by_cases c2 : a1 < (σ 0 2)
    · rw [if_pos c2] at h
      refine hV.run 7 [0, 1] (ws' := wX7 7 18 χ σ τ) (pc' := 17) (ls' := [(0, .ref 0), (1, .int a1)]) (st' := [.int 0]) (ps := [¬ a1 < 0, a1 < (σ 0 2)]) rfl ⟨c1, c2, trivial⟩ ?_
      subst h
      exact hV.rz rfl rfl rfl (Or.inl rfl) hP
    · rw [if_neg c2] at h
      refine hV.run 8 [0, 0] (ws' := wX7 7 18 χ σ τ) (pc' := 17) (ls' := [(0, .ref 0), (1, .int a1)]) (st' := [.int 1]) (ps := [¬ a1 < 0, ¬ a1 < (σ 0 2)]) rfl ⟨c1, c2, trivial⟩ ?_
      subst h
      exact hV.rz rfl rfl rfl (Or.inr rfl) hP

def X7_reached (n : Nat) (σ : am_M) (τ : Nat → Int64) (χ : Nat → Nat) : Option (Int32 × am_M × (Nat → Int64) × (Nat → Nat)) := (X4_explore n (am_sg σ 26) (am_sg τ 26) (σ 0 2) (σ 0 3) 0).bind (fun q1 => if ((am_pg σ 26 8 q1.1) 26 11) = 0 then (some ((am_pg σ 26 8 q1.1) 26 9, am_pg σ 26 8 q1.1, am_pg τ 26 8 q1.2.1, updN χ 27 ((am_gj 26 8 (χ 27)).getD q1.2.2 0))) else (some ((-1), am_pg σ 26 8 q1.1, am_pg τ 26 8 q1.2.1, updN χ 27 ((am_gj 26 8 (χ 27)).getD q1.2.2 0))))
set_option maxRecDepth 100000 in
set_option maxHeartbeats 4000000 in
theorem c_X7_reached (l : Launch) (n : Nat) (σ : am_M) (τ : Nat → Int64) (χ : Nat → Nat) (res : (Int32 × am_M × (Nat → Int64) × (Nat → Nat))) (h : X7_reached n σ τ χ = some res) : am_Con l yX7_reached cX7_reached 1 (some .int) 8 [.ref 0] (wX7 7 18 χ σ τ) (fun (r : Option Value) (w : am_W) => r = (some (.int res.1)) ∧ w = (wX7 7 18 res.2.2.2 res.2.1 res.2.2.1)) := by
  refine am_metn (n0 := 74) (own := RX7) (cd := am_cdT' tX7_reached) (rf := am_rfL rfX7) (ini := false) rfl (by decide +kernel) rfl (by decide) dX7_reached rfX7_ok (Nat.le_of_ble_eq_true rfl) ?_
  intro V hV
  have hP : (fun (r : Option Value) (w : am_W) => r = (some (.int res.1)) ∧ w = (wX7 7 18 res.2.2.2 res.2.1 res.2.2.1)) (some (.int res.1)) (wX7 7 18 res.2.2.2 res.2.1 res.2.2.1) := ⟨rfl, rfl⟩
  show V (wX7 7 18 χ σ τ) 0 [(0, .ref 0)] []
  unfold X7_reached at h
  refine hV.run 9 [] (ws' := wX7 7 18 χ σ τ) (pc' := 17) (ls' := [(0, .ref 0)]) (st' := [.long 0, .int (σ 0 3), .int (σ 0 2), .ref 18, .ref 26]) (ps := []) rfl trivial ?_
  obtain ⟨q1, hq1, h⟩ := am_bind h
  refine hV.cGv 26 8 (χ 27) (as := [.ref 12, .int (σ 0 2), .int (σ 0 3), .long 0]) (rest := []) (st := [.long 0, .int (σ 0 3), .int (σ 0 2), .ref 18, .ref 26]) (ws2 := wX7 7 18 (updN χ 27 ((am_gj 26 8 (χ 27)).getD q1.2.2 0)) (am_pg σ 26 8 q1.1) (am_pg τ 26 8 q1.2.1)) (pc2 := 20) kX7_114 (c_X4_explore l n (am_sg σ 26) (am_sg τ 26) (σ 0 2) (σ 0 3) 0 q1 hq1) rfl rfl rfl rfl rfl rfl (am_gnd0 _) rfl rfl rfl rfl rfl rfl rfl rfl ?_
  by_cases c2 : ((am_pg σ 26 8 q1.1) 26 11) = 0
  · rw [if_pos c2] at h
    refine hV.run 7 [1] (ws' := wX7 7 18 (updN χ 27 ((am_gj 26 8 (χ 27)).getD q1.2.2 0)) (am_pg σ 26 8 q1.1) (am_pg τ 26 8 q1.2.1)) (pc' := 41) (ls' := [(0, .ref 0)]) (st' := [.int ((am_pg σ 26 8 q1.1) 26 9)]) (ps := [((am_pg σ 26 8 q1.1) 26 11) = 0]) rfl ⟨c2, trivial⟩ ?_
    cases h
    exact hV.ri rfl rfl rfl hP
  · rw [if_neg c2] at h
    refine hV.run 6 [0] (ws' := wX7 7 18 (updN χ 27 ((am_gj 26 8 (χ 27)).getD q1.2.2 0)) (am_pg σ 26 8 q1.1) (am_pg τ 26 8 q1.2.1)) (pc' := 41) (ls' := [(0, .ref 0)]) (st' := [.int (-1)]) (ps := [¬ ((am_pg σ 26 8 q1.1) 26 11) = 0]) rfl ⟨c2, trivial⟩ ?_
    cases h
    exact hV.ri rfl rfl rfl hP

def X7_differs (n : Nat) (σ : am_M) (τ : Nat → Int64) (χ : Nat → Nat) : Option (Bool × am_M × (Nat → Int64) × (Nat → Nat)) := (X4_explore n (am_sg σ 26) (am_sg τ 26) (σ 0 2) (σ 0 3) 0).bind (fun q1 => if ((am_pg σ 26 8 q1.1) 26 11) = 0 then (X4_wholeUnlike n (am_sg (am_pg σ 26 8 q1.1) 26)).bind (fun q3 => if q3 = true then (some (true, am_pg σ 26 8 q1.1, am_pg τ 26 8 q1.2.1, updN χ 27 ((am_gj 26 8 (χ 27)).getD q1.2.2 0))) else (some (false, am_pg σ 26 8 q1.1, am_pg τ 26 8 q1.2.1, updN χ 27 ((am_gj 26 8 (χ 27)).getD q1.2.2 0)))) else (some (false, am_pg σ 26 8 q1.1, am_pg τ 26 8 q1.2.1, updN χ 27 ((am_gj 26 8 (χ 27)).getD q1.2.2 0))))
set_option maxRecDepth 100000 in
set_option maxHeartbeats 4000000 in
theorem c_X7_differs (l : Launch) (n : Nat) (σ : am_M) (τ : Nat → Int64) (χ : Nat → Nat) (res : (Bool × am_M × (Nat → Int64) × (Nat → Nat))) (h : X7_differs n σ τ χ = some res) : am_Con l yX7_differs cX7_differs 1 (some .boolean) 8 [.ref 0] (wX7 7 18 χ σ τ) (fun (r : Option Value) (w : am_W) => r = (some (.int (b2i res.1))) ∧ w = (wX7 7 18 res.2.2.2 res.2.1 res.2.2.1)) := by
  refine am_metn (n0 := 74) (own := RX7) (cd := am_cdT' tX7_differs) (rf := am_rfL rfX7) (ini := false) rfl (by decide +kernel) rfl (by decide) dX7_differs rfX7_ok (Nat.le_of_ble_eq_true rfl) ?_
  intro V hV
  have hP : (fun (r : Option Value) (w : am_W) => r = (some (.int (b2i res.1))) ∧ w = (wX7 7 18 res.2.2.2 res.2.1 res.2.2.1)) (some (.int (b2i res.1))) (wX7 7 18 res.2.2.2 res.2.1 res.2.2.1) := ⟨rfl, rfl⟩
  show V (wX7 7 18 χ σ τ) 0 [(0, .ref 0)] []
  unfold X7_differs at h
  refine hV.run 9 [] (ws' := wX7 7 18 χ σ τ) (pc' := 17) (ls' := [(0, .ref 0)]) (st' := [.long 0, .int (σ 0 3), .int (σ 0 2), .ref 18, .ref 26]) (ps := []) rfl trivial ?_
  obtain ⟨q1, hq1, h⟩ := am_bind h
  refine hV.cGv 26 8 (χ 27) (as := [.ref 12, .int (σ 0 2), .int (σ 0 3), .long 0]) (rest := []) (st := [.long 0, .int (σ 0 3), .int (σ 0 2), .ref 18, .ref 26]) (ws2 := wX7 7 18 (updN χ 27 ((am_gj 26 8 (χ 27)).getD q1.2.2 0)) (am_pg σ 26 8 q1.1) (am_pg τ 26 8 q1.2.1)) (pc2 := 20) kX7_114 (c_X4_explore l n (am_sg σ 26) (am_sg τ 26) (σ 0 2) (σ 0 3) 0 q1 hq1) rfl rfl rfl rfl rfl rfl (am_gnd0 _) rfl rfl rfl rfl rfl rfl rfl rfl ?_
  by_cases c2 : ((am_pg σ 26 8 q1.1) 26 11) = 0
  · rw [if_pos c2] at h
    refine hV.run 6 [0] (ws' := wX7 7 18 (updN χ 27 ((am_gj 26 8 (χ 27)).getD q1.2.2 0)) (am_pg σ 26 8 q1.1) (am_pg τ 26 8 q1.2.1)) (pc' := 34) (ls' := [(0, .ref 0)]) (st' := [.ref 26]) (ps := [((am_pg σ 26 8 q1.1) 26 11) = 0]) rfl ⟨c2, trivial⟩ ?_
    obtain ⟨q3, hq3, h⟩ := am_bind h
    refine hV.cGi 26 8 ((updN χ 27 ((am_gj 26 8 (χ 27)).getD q1.2.2 0)) 27) (as := []) (rest := []) (st := [.ref 26]) (ws2 := wX7 7 18 (updN χ 27 ((am_gj 26 8 (χ 27)).getD q1.2.2 0)) (am_pg σ 26 8 q1.1) (am_pg τ 26 8 q1.2.1)) (pc2 := 37) kX7_140 (c_X4_wholeUnlike l n (am_sg (am_pg σ 26 8 q1.1) 26) (am_sg (am_pg τ 26 8 q1.2.1) 26) 28 q3 hq3) rfl rfl rfl rfl rfl rfl (am_gnd0 _) rfl rfl rfl rfl rfl rfl rfl rfl ?_
    by_cases c4 : q3 = true
    · rw [if_pos c4] at h
      refine hV.run 3 [0] (ws' := wX7 7 18 (updN χ 27 ((am_gj 26 8 (χ 27)).getD q1.2.2 0)) (am_pg σ 26 8 q1.1) (am_pg τ 26 8 q1.2.1)) (pc' := 45) (ls' := [(0, .ref 0)]) (st' := [.int 1]) (ps := [¬ (b2i q3) = 0]) rfl ⟨(b2i_t c4), trivial⟩ ?_
      cases h
      exact hV.rz rfl rfl rfl (Or.inr rfl) hP
    · rw [if_neg c4] at h
      refine hV.run 2 [1] (ws' := wX7 7 18 (updN χ 27 ((am_gj 26 8 (χ 27)).getD q1.2.2 0)) (am_pg σ 26 8 q1.1) (am_pg τ 26 8 q1.2.1)) (pc' := 45) (ls' := [(0, .ref 0)]) (st' := [.int 0]) (ps := [(b2i q3) = 0]) rfl ⟨(b2i_f c4), trivial⟩ ?_
      cases h
      exact hV.rz rfl rfl rfl (Or.inl rfl) hP
  · rw [if_neg c2] at h
    refine hV.run 5 [1] (ws' := wX7 7 18 (updN χ 27 ((am_gj 26 8 (χ 27)).getD q1.2.2 0)) (am_pg σ 26 8 q1.1) (am_pg τ 26 8 q1.2.1)) (pc' := 45) (ls' := [(0, .ref 0)]) (st' := [.int 0]) (ps := [¬ ((am_pg σ 26 8 q1.1) 26 11) = 0]) rfl ⟨c2, trivial⟩ ?_
    cases h
    exact hV.rz rfl rfl rfl (Or.inl rfl) hP

def X7_needs_B2 (n : Nat) (kont2 : am_M → (Nat → Int64) → (Nat → Nat) → Int32 → Option (Int32 × am_M × (Nat → Int64) × (Nat → Nat))) (σ : am_M) (τ : Nat → Int64) (χ : Nat → Nat) (l1 : Int32) : Option (Int32 × am_M × (Nat → Int64) × (Nat → Nat)) := if 3 < l1 then (some ((-1), σ, τ, χ)) else (X4_explore n (am_sg σ 26) (am_sg τ 26) (σ 0 2) l1 0).bind (fun q2 => if ((am_pg σ 26 8 q2.1) 26 11) = 0 then (if (X4_locks (am_sg (am_pg σ 26 8 q2.1) 26)) = true then (kont2 (am_pg σ 26 8 q2.1) (am_pg τ 26 8 q2.2.1) (updN χ 27 ((am_gj 26 8 (χ 27)).getD q2.2.2 0)) (l1 + 1)) else (some (l1, am_pg σ 26 8 q2.1, am_pg τ 26 8 q2.2.1, updN χ 27 ((am_gj 26 8 (χ 27)).getD q2.2.2 0)))) else (some ((-1), am_pg σ 26 8 q2.1, am_pg τ 26 8 q2.2.1, updN χ 27 ((am_gj 26 8 (χ 27)).getD q2.2.2 0))))
def X7_needs_L2 (n : Nat) : Nat → am_M → (Nat → Int64) → (Nat → Nat) → Int32 → Option (Int32 × am_M × (Nat → Int64) × (Nat → Nat))
 | 0 => fun _ _ _ _ => none
 | k + 1 => fun σ τ χ l1 => X7_needs_B2 n (X7_needs_L2 n k) σ τ χ l1
set_option maxRecDepth 100000 in
set_option maxHeartbeats 4000000 in
theorem p_X7_needs_B2 {l : Launch} {Post : Option Value → am_W → Prop} {V : am_VT} (hV : am_B l RX7 false 8 (am_cdT' tX7_needs) (am_rfL rfX7) (some .int) Post 74 V) (n : Nat) (res : (Int32 × am_M × (Nat → Int64) × (Nat → Nat))) (hP : Post (some (.int res.1)) (wX7 7 18 res.2.2.2 res.2.1 res.2.2.1)) (kont2 : am_M → (Nat → Int64) → (Nat → Nat) → Int32 → Option (Int32 × am_M × (Nat → Int64) × (Nat → Nat))) (hk2 : ∀ (σ : am_M) (τ : Nat → Int64) (χ : Nat → Nat) (l1 : Int32), kont2 σ τ χ l1 = some res → V (wX7 7 18 χ σ τ) 2 [(0, .ref 0), (1, .int l1)] []) (σ : am_M) (τ : Nat → Int64) (χ : Nat → Nat) (l1 : Int32) (h : X7_needs_B2 n kont2 σ τ χ l1 = some res) : V (wX7 7 18 χ σ τ) 2 [(0, .ref 0), (1, .int l1)] [] := by
  unfold X7_needs_B2 at h
  by_cases c1 : 3 < l1
  · rw [if_pos c1] at h
    refine hV.run 4 [1] (ws' := wX7 7 18 χ σ τ) (pc' := 55) (ls' := [(0, .ref 0), (1, .int l1)]) (st' := [.int (-1)]) (ps := [3 < l1]) rfl ⟨c1, trivial⟩ ?_
    cases h
    exact hV.ri rfl rfl rfl hP
  · rw [if_neg c1] at h
    refine hV.run 11 [0] (ws' := wX7 7 18 χ σ τ) (pc' := 21) (ls' := [(0, .ref 0), (1, .int l1)]) (st' := [.long 0, .int l1, .int (σ 0 2), .ref 18, .ref 26]) (ps := [¬ 3 < l1]) rfl ⟨c1, trivial⟩ ?_
    obtain ⟨q2, hq2, h⟩ := am_bind h
    refine hV.cGv 26 8 (χ 27) (as := [.ref 12, .int (σ 0 2), .int l1, .long 0]) (rest := []) (st := [.long 0, .int l1, .int (σ 0 2), .ref 18, .ref 26]) (ws2 := wX7 7 18 (updN χ 27 ((am_gj 26 8 (χ 27)).getD q2.2.2 0)) (am_pg σ 26 8 q2.1) (am_pg τ 26 8 q2.2.1)) (pc2 := 24) kX7_114 (c_X4_explore l n (am_sg σ 26) (am_sg τ 26) (σ 0 2) l1 0 q2 hq2) rfl rfl rfl rfl rfl rfl (am_gnd0 _) rfl rfl rfl rfl rfl rfl rfl rfl ?_
    by_cases c3 : ((am_pg σ 26 8 q2.1) 26 11) = 0
    · rw [if_pos c3] at h
      refine hV.run 6 [1] (ws' := wX7 7 18 (updN χ 27 ((am_gj 26 8 (χ 27)).getD q2.2.2 0)) (am_pg σ 26 8 q2.1) (am_pg τ 26 8 q2.2.1)) (pc' := 40) (ls' := [(0, .ref 0), (1, .int l1)]) (st' := [.ref 26]) (ps := [((am_pg σ 26 8 q2.1) 26 11) = 0]) rfl ⟨c3, trivial⟩ ?_
      refine hV.cGi 26 8 ((updN χ 27 ((am_gj 26 8 (χ 27)).getD q2.2.2 0)) 27) (as := []) (rest := []) (st := [.ref 26]) (ws2 := wX7 7 18 (updN χ 27 ((am_gj 26 8 (χ 27)).getD q2.2.2 0)) (am_pg σ 26 8 q2.1) (am_pg τ 26 8 q2.2.1)) (pc2 := 43) kX7_152 (c_X4_locks l (am_sg (am_pg σ 26 8 q2.1) 26) (am_sg (am_pg τ 26 8 q2.2.1) 26) 28) rfl rfl rfl rfl rfl rfl (am_gnd0 _) rfl rfl rfl rfl rfl rfl rfl rfl ?_
      by_cases c4 : (X4_locks (am_sg (am_pg σ 26 8 q2.1) 26)) = true
      · rw [if_pos c4] at h
        refine hV.run 3 [1] (ws' := wX7 7 18 (updN χ 27 ((am_gj 26 8 (χ 27)).getD q2.2.2 0)) (am_pg σ 26 8 q2.1) (am_pg τ 26 8 q2.2.1)) (pc' := 2) (ls' := [(1, .int (l1 + 1)), (0, .ref 0)]) (st' := []) (ps := [¬ (b2i (X4_locks (am_sg (am_pg σ 26 8 q2.1) 26))) = 0]) rfl ⟨(b2i_t c4), trivial⟩ ?_
        refine hV.pick [1, 0] (ls' := [(0, .ref 0), (1, .int (l1 + 1))]) rfl ?_
        exact hk2 (am_pg σ 26 8 q2.1) (am_pg τ 26 8 q2.2.1) (updN χ 27 ((am_gj 26 8 (χ 27)).getD q2.2.2 0)) (l1 + 1) h
      · rw [if_neg c4] at h
        refine hV.run 2 [0] (ws' := wX7 7 18 (updN χ 27 ((am_gj 26 8 (χ 27)).getD q2.2.2 0)) (am_pg σ 26 8 q2.1) (am_pg τ 26 8 q2.2.1)) (pc' := 47) (ls' := [(0, .ref 0), (1, .int l1)]) (st' := [.int l1]) (ps := [(b2i (X4_locks (am_sg (am_pg σ 26 8 q2.1) 26))) = 0]) rfl ⟨(b2i_f c4), trivial⟩ ?_
        cases h
        exact hV.ri rfl rfl rfl hP
    · rw [if_neg c3] at h
      refine hV.run 5 [0] (ws' := wX7 7 18 (updN χ 27 ((am_gj 26 8 (χ 27)).getD q2.2.2 0)) (am_pg σ 26 8 q2.1) (am_pg τ 26 8 q2.2.1)) (pc' := 35) (ls' := [(0, .ref 0), (1, .int l1)]) (st' := [.int (-1)]) (ps := [¬ ((am_pg σ 26 8 q2.1) 26 11) = 0]) rfl ⟨c3, trivial⟩ ?_
      cases h
      exact hV.ri rfl rfl rfl hP
theorem p_X7_needs_L2 {l : Launch} {Post : Option Value → am_W → Prop} {V : am_VT} (hV : am_B l RX7 false 8 (am_cdT' tX7_needs) (am_rfL rfX7) (some .int) Post 74 V) (n : Nat) (res : (Int32 × am_M × (Nat → Int64) × (Nat → Nat))) (hP : Post (some (.int res.1)) (wX7 7 18 res.2.2.2 res.2.1 res.2.2.1)) : ∀ (k : Nat) (σ : am_M) (τ : Nat → Int64) (χ : Nat → Nat) (l1 : Int32) (h : X7_needs_L2 n k σ τ χ l1 = some res), V (wX7 7 18 χ σ τ) 2 [(0, .ref 0), (1, .int l1)] [] := by
  intro k
  induction k with
  | zero => intro σ τ χ l1 h; cases h
  | succ k ih => intro σ τ χ l1 h; exact p_X7_needs_B2 hV n res hP _ ih σ τ χ l1 h
def X7_needs (n : Nat) (σ : am_M) (τ : Nat → Int64) (χ : Nat → Nat) : Option (Int32 × am_M × (Nat → Int64) × (Nat → Nat)) := X7_needs_L2 n n σ τ χ 0
set_option maxRecDepth 100000 in
set_option maxHeartbeats 4000000 in
theorem c_X7_needs (l : Launch) (n : Nat) (σ : am_M) (τ : Nat → Int64) (χ : Nat → Nat) (res : (Int32 × am_M × (Nat → Int64) × (Nat → Nat))) (h : X7_needs n σ τ χ = some res) : am_Con l yX7_needs cX7_needs 2 (some .int) 8 [.ref 0] (wX7 7 18 χ σ τ) (fun (r : Option Value) (w : am_W) => r = (some (.int res.1)) ∧ w = (wX7 7 18 res.2.2.2 res.2.1 res.2.2.1)) := by
  refine am_metn (n0 := 74) (own := RX7) (cd := am_cdT' tX7_needs) (rf := am_rfL rfX7) (ini := false) rfl (by decide +kernel) rfl (by decide) dX7_needs rfX7_ok (Nat.le_of_ble_eq_true rfl) ?_
  intro V hV
  have hP : (fun (r : Option Value) (w : am_W) => r = (some (.int res.1)) ∧ w = (wX7 7 18 res.2.2.2 res.2.1 res.2.2.1)) (some (.int res.1)) (wX7 7 18 res.2.2.2 res.2.1 res.2.2.1) := ⟨rfl, rfl⟩
  show V (wX7 7 18 χ σ τ) 0 [(0, .ref 0)] []
  unfold X7_needs at h
  refine hV.run 2 [] (ws' := wX7 7 18 χ σ τ) (pc' := 2) (ls' := [(1, .int 0), (0, .ref 0)]) (st' := []) (ps := []) rfl trivial ?_
  refine hV.pick [1, 0] (ls' := [(0, .ref 0), (1, .int 0)]) rfl ?_
  exact p_X7_needs_L2 hV n res hP n σ τ χ 0 h

def X7_cut_J116 (n : Nat) (kont39 : am_M → (Nat → Int64) → (Nat → Nat) → Int64 → Int32 → Int32 → Option (Int32 × am_M × (Nat → Int64) × (Nat → Nat))) (σ : am_M) (τ : Nat → Int64) (χ : Nat → Nat) (l1 : Int64) (l3 : Int32) (l4 : Int32) : Option (Int32 × am_M × (Nat → Int64) × (Nat → Nat)) := kont39 σ τ χ l1 l3 (l4 + 1)
set_option maxRecDepth 100000 in
set_option maxHeartbeats 4000000 in
theorem p_X7_cut_J116 {l : Launch} {Post : Option Value → am_W → Prop} {V : am_VT} (hV : am_B l RX7 false 8 (am_cdT' tX7_cut) (am_rfL rfX7) (some .int) Post 74 V) (n : Nat) (res : (Int32 × am_M × (Nat → Int64) × (Nat → Nat))) (hP : Post (some (.int res.1)) (wX7 7 18 res.2.2.2 res.2.1 res.2.2.1)) (kont39 : am_M → (Nat → Int64) → (Nat → Nat) → Int64 → Int32 → Int32 → Option (Int32 × am_M × (Nat → Int64) × (Nat → Nat))) (hk39 : ∀ (σ : am_M) (τ : Nat → Int64) (χ : Nat → Nat) (l1 : Int64) (l3 : Int32) (l4 : Int32), kont39 σ τ χ l1 l3 l4 = some res → V (wX7 7 18 χ σ τ) 39 [(0, .ref 0), (1, .long l1), (3, .int l3), (4, .int l4)] []) (σ : am_M) (τ : Nat → Int64) (χ : Nat → Nat) (l1 : Int64) (l3 : Int32) (l4 : Int32) (h : X7_cut_J116 n kont39 σ τ χ l1 l3 l4 = some res) : V (wX7 7 18 χ σ τ) 116 [(0, .ref 0), (1, .long l1), (3, .int l3), (4, .int l4)] [] := by
  unfold X7_cut_J116 at h
  refine hV.run 2 [] (ws' := wX7 7 18 χ σ τ) (pc' := 39) (ls' := [(4, .int (l4 + 1)), (0, .ref 0), (1, .long l1), (3, .int l3)]) (st' := []) (ps := []) rfl trivial ?_
  refine hV.pick [1, 2, 3, 0] (ls' := [(0, .ref 0), (1, .long l1), (3, .int l3), (4, .int (l4 + 1))]) rfl ?_
  exact hk39 σ τ χ l1 l3 (l4 + 1) h
def X7_cut_B39 (n : Nat) (kont39 : am_M → (Nat → Int64) → (Nat → Nat) → Int64 → Int32 → Int32 → Option (Int32 × am_M × (Nat → Int64) × (Nat → Nat))) (σ : am_M) (τ : Nat → Int64) (χ : Nat → Nat) (l1 : Int64) (l3 : Int32) (l4 : Int32) : Option (Int32 × am_M × (Nat → Int64) × (Nat → Nat)) := if (σ 18 7) ≤ l4 then (some (l3, sC σ 0 (am_u (σ 0) 10 1), upd64 τ 0 l1, χ)) else (if (X3_kindOf (am_sub σ 18) l4) = 10 then (X7_cut_J116 n kont39 σ τ χ l1 l3 l4) else (X4_explore n (am_sg σ 26) (am_sg τ 26) (σ 0 2) (σ 0 3) (l1 ||| (am_lshl 1 l4))).bind (fun q3 => if (X4_locks (am_sg (am_pg σ 26 8 q3.1) 26)) = true then (X7_cut_J116 n kont39 (am_pg σ 26 8 q3.1) (am_pg τ 26 8 q3.2.1) (updN χ 27 ((am_gj 26 8 (χ 27)).getD q3.2.2 0)) (l1 ||| (am_lshl 1 l4)) l3 l4) else (X7_cut_J116 n kont39 (am_pg σ 26 8 q3.1) (am_pg τ 26 8 q3.2.1) (updN χ 27 ((am_gj 26 8 (χ 27)).getD q3.2.2 0)) l1 (l3 + 1) l4)))
def X7_cut_L39 (n : Nat) : Nat → am_M → (Nat → Int64) → (Nat → Nat) → Int64 → Int32 → Int32 → Option (Int32 × am_M × (Nat → Int64) × (Nat → Nat))
 | 0 => fun _ _ _ _ _ _ => none
 | k + 1 => fun σ τ χ l1 l3 l4 => X7_cut_B39 n (X7_cut_L39 n k) σ τ χ l1 l3 l4
set_option maxRecDepth 100000 in
set_option maxHeartbeats 4000000 in
theorem p_X7_cut_B39 {l : Launch} {Post : Option Value → am_W → Prop} {V : am_VT} (hV : am_B l RX7 false 8 (am_cdT' tX7_cut) (am_rfL rfX7) (some .int) Post 74 V) (n : Nat) (res : (Int32 × am_M × (Nat → Int64) × (Nat → Nat))) (hP : Post (some (.int res.1)) (wX7 7 18 res.2.2.2 res.2.1 res.2.2.1)) (kont39 : am_M → (Nat → Int64) → (Nat → Nat) → Int64 → Int32 → Int32 → Option (Int32 × am_M × (Nat → Int64) × (Nat → Nat))) (hk39 : ∀ (σ : am_M) (τ : Nat → Int64) (χ : Nat → Nat) (l1 : Int64) (l3 : Int32) (l4 : Int32), kont39 σ τ χ l1 l3 l4 = some res → V (wX7 7 18 χ σ τ) 39 [(0, .ref 0), (1, .long l1), (3, .int l3), (4, .int l4)] []) (σ : am_M) (τ : Nat → Int64) (χ : Nat → Nat) (l1 : Int64) (l3 : Int32) (l4 : Int32) (h : X7_cut_B39 n kont39 σ τ χ l1 l3 l4 = some res) : V (wX7 7 18 χ σ τ) 39 [(0, .ref 0), (1, .long l1), (3, .int l3), (4, .int l4)] [] := by
  unfold X7_cut_B39 at h
  by_cases c1 : (σ 18 7) ≤ l4
  · rw [if_pos c1] at h
    refine hV.run 12 [1] (ws' := wX7 7 18 χ (sC σ 0 (am_u (σ 0) 10 1)) (upd64 τ 0 l1)) (pc' := 133) (ls' := [(0, .ref 0), (1, .long l1), (3, .int l3), (4, .int l4)]) (st' := [.int l3]) (ps := [(σ 18 7) ≤ l4, (1 : Int32) = 0 ∨ (1 : Int32) = 1]) rfl ⟨c1, (Or.inr rfl), trivial⟩ ?_
    cases h
    exact hV.ri rfl rfl rfl hP
  · rw [if_neg c1] at h
    refine hV.run 8 [0] (ws' := wX7 7 18 χ σ τ) (pc' := 57) (ls' := [(0, .ref 0), (1, .long l1), (3, .int l3), (4, .int l4)]) (st' := [.int l4, .ref 18]) (ps := [¬ (σ 18 7) ≤ l4]) rfl ⟨c1, trivial⟩ ?_
    refine hV.cBi 18 8 [] (as := [.int l4]) (rest := []) (st := [.int l4, .ref 18]) (ws2 := wX7 7 18 χ σ τ) (pc2 := 60) kX7_109 (c_X3_kindOf l (am_sub σ 18) l4) rfl rfl rfl rfl rfl rfl rfl rfl rfl rfl rfl rfl rfl rfl ?_
    by_cases c2 : (X3_kindOf (am_sub σ 18) l4) = 10
    · rw [if_pos c2] at h
      refine hV.run 3 [0] (ws' := wX7 7 18 χ σ τ) (pc' := 116) (ls' := [(0, .ref 0), (1, .long l1), (3, .int l3), (4, .int l4)]) (st' := []) (ps := [(X3_kindOf (am_sub σ 18) l4) = 10]) rfl ⟨c2, trivial⟩ ?_
      exact p_X7_cut_J116 hV n res hP kont39 hk39 σ τ χ l1 l3 l4 h
    · rw [if_neg c2] at h
      refine hV.run 15 [1] (ws' := wX7 7 18 χ σ τ) (pc' := 90) (ls' := [(0, .ref 0), (1, .long l1), (3, .int l3), (4, .int l4)]) (st' := [.long (l1 ||| (am_lshl 1 l4)), .int (σ 0 3), .int (σ 0 2), .ref 18, .ref 26]) (ps := [¬ (X3_kindOf (am_sub σ 18) l4) = 10]) rfl ⟨c2, trivial⟩ ?_
      obtain ⟨q3, hq3, h⟩ := am_bind h
      refine hV.cGv 26 8 (χ 27) (as := [.ref 12, .int (σ 0 2), .int (σ 0 3), .long (l1 ||| (am_lshl 1 l4))]) (rest := []) (st := [.long (l1 ||| (am_lshl 1 l4)), .int (σ 0 3), .int (σ 0 2), .ref 18, .ref 26]) (ws2 := wX7 7 18 (updN χ 27 ((am_gj 26 8 (χ 27)).getD q3.2.2 0)) (am_pg σ 26 8 q3.1) (am_pg τ 26 8 q3.2.1)) (pc2 := 93) kX7_114 (c_X4_explore l n (am_sg σ 26) (am_sg τ 26) (σ 0 2) (σ 0 3) (l1 ||| (am_lshl 1 l4)) q3 hq3) rfl rfl rfl rfl rfl rfl (am_gnd0 _) rfl rfl rfl rfl rfl rfl rfl rfl ?_
      refine hV.run 2 [] (ws' := wX7 7 18 (updN χ 27 ((am_gj 26 8 (χ 27)).getD q3.2.2 0)) (am_pg σ 26 8 q3.1) (am_pg τ 26 8 q3.2.1)) (pc' := 97) (ls' := [(0, .ref 0), (1, .long l1), (3, .int l3), (4, .int l4)]) (st' := [.ref 26]) (ps := []) rfl trivial ?_
      refine hV.cGi 26 8 ((updN χ 27 ((am_gj 26 8 (χ 27)).getD q3.2.2 0)) 27) (as := []) (rest := []) (st := [.ref 26]) (ws2 := wX7 7 18 (updN χ 27 ((am_gj 26 8 (χ 27)).getD q3.2.2 0)) (am_pg σ 26 8 q3.1) (am_pg τ 26 8 q3.2.1)) (pc2 := 100) kX7_152 (c_X4_locks l (am_sg (am_pg σ 26 8 q3.1) 26) (am_sg (am_pg τ 26 8 q3.2.1) 26) 28) rfl rfl rfl rfl rfl rfl (am_gnd0 _) rfl rfl rfl rfl rfl rfl rfl rfl ?_
      by_cases c4 : (X4_locks (am_sg (am_pg σ 26 8 q3.1) 26)) = true
      · rw [if_pos c4] at h
        refine hV.run 8 [0] (ws' := wX7 7 18 (updN χ 27 ((am_gj 26 8 (χ 27)).getD q3.2.2 0)) (am_pg σ 26 8 q3.1) (am_pg τ 26 8 q3.2.1)) (pc' := 116) (ls' := [(1, .long (l1 ||| (am_lshl 1 l4))), (0, .ref 0), (3, .int l3), (4, .int l4)]) (st' := []) (ps := [¬ (b2i (X4_locks (am_sg (am_pg σ 26 8 q3.1) 26))) = 0]) rfl ⟨(b2i_t c4), trivial⟩ ?_
        refine hV.pick [1, 0, 2, 3] (ls' := [(0, .ref 0), (1, .long (l1 ||| (am_lshl 1 l4))), (3, .int l3), (4, .int l4)]) rfl ?_
        exact p_X7_cut_J116 hV n res hP kont39 hk39 (am_pg σ 26 8 q3.1) (am_pg τ 26 8 q3.2.1) (updN χ 27 ((am_gj 26 8 (χ 27)).getD q3.2.2 0)) (l1 ||| (am_lshl 1 l4)) l3 l4 h
      · rw [if_neg c4] at h
        refine hV.run 2 [1] (ws' := wX7 7 18 (updN χ 27 ((am_gj 26 8 (χ 27)).getD q3.2.2 0)) (am_pg σ 26 8 q3.1) (am_pg τ 26 8 q3.2.1)) (pc' := 116) (ls' := [(3, .int (l3 + 1)), (0, .ref 0), (1, .long l1), (4, .int l4)]) (st' := []) (ps := [(b2i (X4_locks (am_sg (am_pg σ 26 8 q3.1) 26))) = 0]) rfl ⟨(b2i_f c4), trivial⟩ ?_
        refine hV.pick [1, 2, 0, 3] (ls' := [(0, .ref 0), (1, .long l1), (3, .int (l3 + 1)), (4, .int l4)]) rfl ?_
        exact p_X7_cut_J116 hV n res hP kont39 hk39 (am_pg σ 26 8 q3.1) (am_pg τ 26 8 q3.2.1) (updN χ 27 ((am_gj 26 8 (χ 27)).getD q3.2.2 0)) l1 (l3 + 1) l4 h
theorem p_X7_cut_L39 {l : Launch} {Post : Option Value → am_W → Prop} {V : am_VT} (hV : am_B l RX7 false 8 (am_cdT' tX7_cut) (am_rfL rfX7) (some .int) Post 74 V) (n : Nat) (res : (Int32 × am_M × (Nat → Int64) × (Nat → Nat))) (hP : Post (some (.int res.1)) (wX7 7 18 res.2.2.2 res.2.1 res.2.2.1)) : ∀ (k : Nat) (σ : am_M) (τ : Nat → Int64) (χ : Nat → Nat) (l1 : Int64) (l3 : Int32) (l4 : Int32) (h : X7_cut_L39 n k σ τ χ l1 l3 l4 = some res), V (wX7 7 18 χ σ τ) 39 [(0, .ref 0), (1, .long l1), (3, .int l3), (4, .int l4)] [] := by
  intro k
  induction k with
  | zero => intro σ τ χ l1 l3 l4 h; cases h
  | succ k ih => intro σ τ χ l1 l3 l4 h; exact p_X7_cut_B39 hV n res hP _ ih σ τ χ l1 l3 l4 h
def X7_cut (n : Nat) (σ : am_M) (τ : Nat → Int64) (χ : Nat → Nat) : Option (Int32 × am_M × (Nat → Int64) × (Nat → Nat)) := (X4_explore n (am_sg σ 26) (am_sg τ 26) (σ 0 2) (σ 0 3) 0).bind (fun q1 => if (X4_locks (am_sg (am_pg σ 26 8 q1.1) 26)) = true then (X7_cut_L39 n n (am_pg σ 26 8 q1.1) (am_pg τ 26 8 q1.2.1) (updN χ 27 ((am_gj 26 8 (χ 27)).getD q1.2.2 0)) 0 0 0) else (some ((-1), am_pg σ 26 8 q1.1, am_pg τ 26 8 q1.2.1, updN χ 27 ((am_gj 26 8 (χ 27)).getD q1.2.2 0))))
set_option maxRecDepth 100000 in
set_option maxHeartbeats 4000000 in
theorem c_X7_cut (l : Launch) (n : Nat) (σ : am_M) (τ : Nat → Int64) (χ : Nat → Nat) (res : (Int32 × am_M × (Nat → Int64) × (Nat → Nat))) (h : X7_cut n σ τ χ = some res) : am_Con l yX7_cut cX7_cut 5 (some .int) 8 [.ref 0] (wX7 7 18 χ σ τ) (fun (r : Option Value) (w : am_W) => r = (some (.int res.1)) ∧ w = (wX7 7 18 res.2.2.2 res.2.1 res.2.2.1)) := by
  refine am_metn (n0 := 74) (own := RX7) (cd := am_cdT' tX7_cut) (rf := am_rfL rfX7) (ini := false) rfl (by decide +kernel) rfl (by decide) dX7_cut rfX7_ok (Nat.le_of_ble_eq_true rfl) ?_
  intro V hV
  have hP : (fun (r : Option Value) (w : am_W) => r = (some (.int res.1)) ∧ w = (wX7 7 18 res.2.2.2 res.2.1 res.2.2.1)) (some (.int res.1)) (wX7 7 18 res.2.2.2 res.2.1 res.2.2.1) := ⟨rfl, rfl⟩
  show V (wX7 7 18 χ σ τ) 0 [(0, .ref 0)] []
  unfold X7_cut at h
  refine hV.run 9 [] (ws' := wX7 7 18 χ σ τ) (pc' := 17) (ls' := [(0, .ref 0)]) (st' := [.long 0, .int (σ 0 3), .int (σ 0 2), .ref 18, .ref 26]) (ps := []) rfl trivial ?_
  obtain ⟨q1, hq1, h⟩ := am_bind h
  refine hV.cGv 26 8 (χ 27) (as := [.ref 12, .int (σ 0 2), .int (σ 0 3), .long 0]) (rest := []) (st := [.long 0, .int (σ 0 3), .int (σ 0 2), .ref 18, .ref 26]) (ws2 := wX7 7 18 (updN χ 27 ((am_gj 26 8 (χ 27)).getD q1.2.2 0)) (am_pg σ 26 8 q1.1) (am_pg τ 26 8 q1.2.1)) (pc2 := 20) kX7_114 (c_X4_explore l n (am_sg σ 26) (am_sg τ 26) (σ 0 2) (σ 0 3) 0 q1 hq1) rfl rfl rfl rfl rfl rfl (am_gnd0 _) rfl rfl rfl rfl rfl rfl rfl rfl ?_
  refine hV.run 2 [] (ws' := wX7 7 18 (updN χ 27 ((am_gj 26 8 (χ 27)).getD q1.2.2 0)) (am_pg σ 26 8 q1.1) (am_pg τ 26 8 q1.2.1)) (pc' := 24) (ls' := [(0, .ref 0)]) (st' := [.ref 26]) (ps := []) rfl trivial ?_
  refine hV.cGi 26 8 ((updN χ 27 ((am_gj 26 8 (χ 27)).getD q1.2.2 0)) 27) (as := []) (rest := []) (st := [.ref 26]) (ws2 := wX7 7 18 (updN χ 27 ((am_gj 26 8 (χ 27)).getD q1.2.2 0)) (am_pg σ 26 8 q1.1) (am_pg τ 26 8 q1.2.1)) (pc2 := 27) kX7_152 (c_X4_locks l (am_sg (am_pg σ 26 8 q1.1) 26) (am_sg (am_pg τ 26 8 q1.2.1) 26) 28) rfl rfl rfl rfl rfl rfl (am_gnd0 _) rfl rfl rfl rfl rfl rfl rfl rfl ?_
  by_cases c2 : (X4_locks (am_sg (am_pg σ 26 8 q1.1) 26)) = true
  · rw [if_pos c2] at h
    refine hV.run 7 [1] (ws' := wX7 7 18 (updN χ 27 ((am_gj 26 8 (χ 27)).getD q1.2.2 0)) (am_pg σ 26 8 q1.1) (am_pg τ 26 8 q1.2.1)) (pc' := 39) (ls' := [(4, .int 0), (3, .int 0), (1, .long 0), (0, .ref 0)]) (st' := []) (ps := [¬ (b2i (X4_locks (am_sg (am_pg σ 26 8 q1.1) 26))) = 0]) rfl ⟨(b2i_t c2), trivial⟩ ?_
    refine hV.pick [3, 2, 1, 0] (ls' := [(0, .ref 0), (1, .long 0), (3, .int 0), (4, .int 0)]) rfl ?_
    exact p_X7_cut_L39 hV n res hP n (am_pg σ 26 8 q1.1) (am_pg τ 26 8 q1.2.1) (updN χ 27 ((am_gj 26 8 (χ 27)).getD q1.2.2 0)) 0 0 0 h
  · rw [if_neg c2] at h
    refine hV.run 2 [0] (ws' := wX7 7 18 (updN χ 27 ((am_gj 26 8 (χ 27)).getD q1.2.2 0)) (am_pg σ 26 8 q1.1) (am_pg τ 26 8 q1.2.1)) (pc' := 31) (ls' := [(0, .ref 0)]) (st' := [.int (-1)]) (ps := [(b2i (X4_locks (am_sg (am_pg σ 26 8 q1.1) 26))) = 0]) rfl ⟨(b2i_f c2), trivial⟩ ?_
    cases h
    exact hV.ri rfl rfl rfl hP

