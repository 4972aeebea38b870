def X8_text_J17 (n : Nat) (σ : am_M) : Option (Int32 × am_M) := (X8_fail σ 1).bind (fun q1 => some (q1.1, q1.2))
set_option maxRecDepth 100000 in
set_option maxHeartbeats 4000000 in
theorem p_X8_text_J17 {l : Launch} {Post : Option Value → am_W → Prop} {V : am_VT} (hV : am_B l RX8 false 619 (am_cdT' tX8_text) (am_rfL rfX8) (some .int) Post 36 V) (n : Nat) (res : (Int32 × am_M)) (hP : Post (some (.int res.1)) (wX8 res.2)) (σ : am_M) (h : X8_text_J17 n σ = some res) : V (wX8 σ) 17 [(0, .ref 0)] [] := by
  unfold X8_text_J17 at h
  refine hV.run 2 [] (ws' := wX8 σ) (pc' := 19) (ls' := [(0, .ref 0)]) (st' := [.int 1, .ref 0]) (ps := []) rfl trivial ?_
  obtain ⟨q1, hq1, h⟩ := am_bind h
  refine hV.cOi (as := [.int 1]) (rest := []) (st := [.int 1, .ref 0]) (ws2 := wX8 q1.2) (pc2 := 22) kX8_313 (c_X8_fail l σ 1 q1 hq1) rfl rfl rfl rfl rfl rfl rfl rfl rfl ?_
  cases h
  exact hV.ri rfl rfl rfl hP
def X8_text_B272 (n : Nat) (kont272 : am_M → Int32 → Option (Int32 × am_M)) (σ : am_M) (l2 : Int32) : Option (Int32 × am_M) := if (σ 0 21) ≤ l2 then (some (0, sC σ 0 (am_u (am_u (σ 0) 7 ((σ 0 7) + 1)) 8 ((σ 0 8) + 1)))) else (if (1080 + l2) < 0 ∨ 2160 ≤ (1080 + l2).toNatClampNeg then none else (if l2 < 0 ∨ 2160 ≤ l2.toNatClampNeg then none else (kont272 (sC σ 5 (upd (σ 5) l2.toNatClampNeg (σ 5 (1080 + l2).toNatClampNeg))) (l2 + 1))))
def X8_text_L272 (n : Nat) : Nat → am_M → Int32 → Option (Int32 × am_M)
 | 0 => fun _ _ => none
 | k + 1 => fun σ l2 => X8_text_B272 n (X8_text_L272 n k) σ l2
set_option maxRecDepth 100000 in
set_option maxHeartbeats 4000000 in
theorem p_X8_text_B272 {l : Launch} {Post : Option Value → am_W → Prop} {V : am_VT} (hV : am_B l RX8 false 619 (am_cdT' tX8_text) (am_rfL rfX8) (some .int) Post 36 V) (n : Nat) (res : (Int32 × am_M)) (hP : Post (some (.int res.1)) (wX8 res.2)) (kont272 : am_M → Int32 → Option (Int32 × am_M)) (hk272 : ∀ (σ : am_M) (l2 : Int32), kont272 σ l2 = some res → V (wX8 σ) 272 [(0, .ref 0), (2, .int l2)] []) (σ : am_M) (l2 : Int32) (h : X8_text_B272 n kont272 σ l2 = some res) : V (wX8 σ) 272 [(0, .ref 0), (2, .int l2)] [] := by
  unfold X8_text_B272 at h
  by_cases c1 : (σ 0 21) ≤ l2
  · rw [if_pos c1] at h
    refine hV.run 17 [1] (ws' := wX8 (sC σ 0 (am_u (am_u (σ 0) 7 ((σ 0 7) + 1)) 8 ((σ 0 8) + 1)))) (pc' := 323) (ls' := [(0, .ref 0), (2, .int l2)]) (st' := [.int 0]) (ps := [(σ 0 21) ≤ l2]) rfl ⟨c1, trivial⟩ ?_
    cases h
    exact hV.ri rfl rfl rfl hP
  · rw [if_neg c1] at h
    by_cases g2 : (1080 + l2) < 0 ∨ 2160 ≤ (1080 + l2).toNatClampNeg
    · rw [if_pos g2] at h; cases h
    rw [if_neg g2] at h
    by_cases g3 : l2 < 0 ∨ 2160 ≤ l2.toNatClampNeg
    · rw [if_pos g3] at h; cases h
    rw [if_neg g3] at h
    refine hV.run 16 [0] (ws' := wX8 (sC σ 5 (upd (σ 5) l2.toNatClampNeg (σ 5 (1080 + l2).toNatClampNeg)))) (pc' := 272) (ls' := [(2, .int (l2 + 1)), (0, .ref 0)]) (st' := []) (ps := [¬ (σ 0 21) ≤ l2, vp_in (1080 + l2) 2160, vp_in l2 2160]) rfl ⟨c1, g2, g3, trivial⟩ ?_
    refine hV.pick [1, 0] (ls' := [(0, .ref 0), (2, .int (l2 + 1))]) rfl ?_
    exact hk272 (sC σ 5 (upd (σ 5) l2.toNatClampNeg (σ 5 (1080 + l2).toNatClampNeg))) (l2 + 1) h
theorem p_X8_text_L272 {l : Launch} {Post : Option Value → am_W → Prop} {V : am_VT} (hV : am_B l RX8 false 619 (am_cdT' tX8_text) (am_rfL rfX8) (some .int) Post 36 V) (n : Nat) (res : (Int32 × am_M)) (hP : Post (some (.int res.1)) (wX8 res.2)) : ∀ (k : Nat) (σ : am_M) (l2 : Int32) (h : X8_text_L272 n k σ l2 = some res), V (wX8 σ) 272 [(0, .ref 0), (2, .int l2)] [] := by
  intro k
  induction k with
  | zero => intro σ l2 h; cases h
  | succ k ih => intro σ l2 h; exact p_X8_text_B272 hV n res hP _ ih σ l2 h
def X8_text_B207 (n : Nat) (kont105 : am_M → Int32 → Option (Int32 × am_M)) (kont207 : am_M → Int32 → Int32 → Option (Int32 × am_M)) (σ : am_M) (l2 : Int32) (l3 : Int32) : Option (Int32 × am_M) := if 3 ≤ l3 then (kont105 σ (l2 + 1)) else (if ((3 * (40 + l2)) + l3) < 0 ∨ 240 ≤ ((3 * (40 + l2)) + l3).toNatClampNeg then none else (if ((3 * l2) + l3) < 0 ∨ 240 ≤ ((3 * l2) + l3).toNatClampNeg then none else (if ((3 * (40 + l2)) + l3) < 0 ∨ 240 ≤ ((3 * (40 + l2)) + l3).toNatClampNeg then none else (if ((3 * l2) + l3) < 0 ∨ 240 ≤ ((3 * l2) + l3).toNatClampNeg then none else (kont207 (sC (sC σ 7 (upd (σ 7) ((3 * l2) + l3).toNatClampNeg (σ 7 ((3 * (40 + l2)) + l3).toNatClampNeg))) 8 (upd (σ 8) ((3 * l2) + l3).toNatClampNeg (σ 8 ((3 * (40 + l2)) + l3).toNatClampNeg))) l2 (l3 + 1))))))
def X8_text_L207 (n : Nat) (kont105 : am_M → Int32 → Option (Int32 × am_M)) : Nat → am_M → Int32 → Int32 → Option (Int32 × am_M)
 | 0 => fun _ _ _ => none
 | k + 1 => fun σ l2 l3 => X8_text_B207 n kont105 (X8_text_L207 n kont105 k) σ l2 l3
set_option maxRecDepth 100000 in
set_option maxHeartbeats 4000000 in
theorem p_X8_text_B207 {l : Launch} {Post : Option Value → am_W → Prop} {V : am_VT} (hV : am_B l RX8 false 619 (am_cdT' tX8_text) (am_rfL rfX8) (some .int) Post 36 V) (n : Nat) (res : (Int32 × am_M)) (hP : Post (some (.int res.1)) (wX8 res.2)) (kont105 : am_M → Int32 → Option (Int32 × am_M)) (hk105 : ∀ (σ : am_M) (l2 : Int32), kont105 σ l2 = some res → V (wX8 σ) 105 [(0, .ref 0), (2, .int l2)] []) (kont207 : am_M → Int32 → Int32 → Option (Int32 × am_M)) (hk207 : ∀ (σ : am_M) (l2 : Int32) (l3 : Int32), kont207 σ l2 l3 = some res → V (wX8 σ) 207 [(0, .ref 0), (2, .int l2), (3, .int l3)] []) (σ : am_M) (l2 : Int32) (l3 : Int32) (h : X8_text_B207 n kont105 kont207 σ l2 l3 = some res) : V (wX8 σ) 207 [(0, .ref 0), (2, .int l2), (3, .int l3)] [] := by
  unfold X8_text_B207 at h
  by_cases c1 : 3 ≤ l3
  · rw [if_pos c1] at h
    refine hV.run 5 [1] (ws' := wX8 σ) (pc' := 105) (ls' := [(2, .int (l2 + 1)), (0, .ref 0), (3, .int l3)]) (st' := []) (ps := [3 ≤ l3]) rfl ⟨c1, trivial⟩ ?_
    refine hV.pick [1, 0] (ls' := [(0, .ref 0), (2, .int (l2 + 1))]) rfl ?_
    exact hk105 σ (l2 + 1) h
  · rw [if_neg c1] at h
    by_cases g2 : ((3 * (40 + l2)) + l3) < 0 ∨ 240 ≤ ((3 * (40 + l2)) + l3).toNatClampNeg
    · rw [if_pos g2] at h; cases h
    rw [if_neg g2] at h
    by_cases g3 : ((3 * l2) + l3) < 0 ∨ 240 ≤ ((3 * l2) + l3).toNatClampNeg
    · rw [if_pos g3] at h; cases h
    rw [if_neg g3] at h
    by_cases g4 : ((3 * (40 + l2)) + l3) < 0 ∨ 240 ≤ ((3 * (40 + l2)) + l3).toNatClampNeg
    · rw [if_pos g4] at h; cases h
    rw [if_neg g4] at h
    by_cases g5 : ((3 * l2) + l3) < 0 ∨ 240 ≤ ((3 * l2) + l3).toNatClampNeg
    · rw [if_pos g5] at h; cases h
    rw [if_neg g5] at h
    refine hV.run 41 [0] (ws' := wX8 (sC (sC σ 7 (upd (σ 7) ((3 * l2) + l3).toNatClampNeg (σ 7 ((3 * (40 + l2)) + l3).toNatClampNeg))) 8 (upd (σ 8) ((3 * l2) + l3).toNatClampNeg (σ 8 ((3 * (40 + l2)) + l3).toNatClampNeg)))) (pc' := 207) (ls' := [(3, .int (l3 + 1)), (0, .ref 0), (2, .int l2)]) (st' := []) (ps := [¬ 3 ≤ l3, vp_in ((3 * (40 + l2)) + l3) 240, vp_in ((3 * l2) + l3) 240, vp_in ((3 * (40 + l2)) + l3) 240, vp_in ((3 * l2) + l3) 240]) rfl ⟨c1, g2, g3, g4, g5, trivial⟩ ?_
    refine hV.pick [1, 2, 0] (ls' := [(0, .ref 0), (2, .int l2), (3, .int (l3 + 1))]) rfl ?_
    exact hk207 (sC (sC σ 7 (upd (σ 7) ((3 * l2) + l3).toNatClampNeg (σ 7 ((3 * (40 + l2)) + l3).toNatClampNeg))) 8 (upd (σ 8) ((3 * l2) + l3).toNatClampNeg (σ 8 ((3 * (40 + l2)) + l3).toNatClampNeg))) l2 (l3 + 1) h
theorem p_X8_text_L207 {l : Launch} {Post : Option Value → am_W → Prop} {V : am_VT} (hV : am_B l RX8 false 619 (am_cdT' tX8_text) (am_rfL rfX8) (some .int) Post 36 V) (n : Nat) (res : (Int32 × am_M)) (hP : Post (some (.int res.1)) (wX8 res.2)) (kont105 : am_M → Int32 → Option (Int32 × am_M)) (hk105 : ∀ (σ : am_M) (l2 : Int32), kont105 σ l2 = some res → V (wX8 σ) 105 [(0, .ref 0), (2, .int l2)] []) : ∀ (k : Nat) (σ : am_M) (l2 : Int32) (l3 : Int32) (h : X8_text_L207 n kont105 k σ l2 l3 = some res), V (wX8 σ) 207 [(0, .ref 0), (2, .int l2), (3, .int l3)] [] := by
  intro k
  induction k with
  | zero => intro σ l2 l3 h; cases h
  | succ k ih => intro σ l2 l3 h; exact p_X8_text_B207 hV n res hP kont105 hk105 _ ih σ l2 l3 h
def X8_text_B105 (n : Nat) (kont105 : am_M → Int32 → Option (Int32 × am_M)) (σ : am_M) (l2 : Int32) : Option (Int32 × am_M) := if (σ 4 (0 : Int32).toNatClampNeg) ≤ l2 then (X8_text_L272 n n σ 0) else (if (40 + l2) < 0 ∨ 80 ≤ (40 + l2).toNatClampNeg then none else (if l2 < 0 ∨ 80 ≤ l2.toNatClampNeg then none else (if (40 + l2) < 0 ∨ 80 ≤ (40 + l2).toNatClampNeg then none else (if l2 < 0 ∨ 80 ≤ l2.toNatClampNeg then none else (if (40 + l2) < 0 ∨ 80 ≤ (40 + l2).toNatClampNeg then none else (if l2 < 0 ∨ 80 ≤ l2.toNatClampNeg then none else (if (40 + l2) < 0 ∨ 80 ≤ (40 + l2).toNatClampNeg then none else (if l2 < 0 ∨ 80 ≤ l2.toNatClampNeg then none else (if (40 + l2) < 0 ∨ 80 ≤ (40 + l2).toNatClampNeg then none else (if l2 < 0 ∨ 80 ≤ l2.toNatClampNeg then none else (if (40 + l2) < 0 ∨ 80 ≤ (40 + l2).toNatClampNeg then none else (if l2 < 0 ∨ 80 ≤ l2.toNatClampNeg then none else (X8_text_L207 n kont105 n (sC (sC (sC (sC (sC (sC σ 6 (upd (σ 6) l2.toNatClampNeg (σ 6 (40 + l2).toNatClampNeg))) 9 (upd (σ 9) l2.toNatClampNeg (σ 9 (40 + l2).toNatClampNeg))) 10 (upd (σ 10) l2.toNatClampNeg (σ 10 (40 + l2).toNatClampNeg))) 11 (upd (σ 11) l2.toNatClampNeg (σ 11 (40 + l2).toNatClampNeg))) 12 (upd (σ 12) l2.toNatClampNeg (σ 12 (40 + l2).toNatClampNeg))) 13 (upd (σ 13) l2.toNatClampNeg (σ 13 (40 + l2).toNatClampNeg))) l2 0)))))))))))))
def X8_text_L105 (n : Nat) : Nat → am_M → Int32 → Option (Int32 × am_M)
 | 0 => fun _ _ => none
 | k + 1 => fun σ l2 => X8_text_B105 n (X8_text_L105 n k) σ l2
set_option maxRecDepth 100000 in
set_option maxHeartbeats 4000000 in
theorem p_X8_text_B105 {l : Launch} {Post : Option Value → am_W → Prop} {V : am_VT} (hV : am_B l RX8 false 619 (am_cdT' tX8_text) (am_rfL rfX8) (some .int) Post 36 V) (n : Nat) (res : (Int32 × am_M)) (hP : Post (some (.int res.1)) (wX8 res.2)) (kont105 : am_M → Int32 → Option (Int32 × am_M)) (hk105 : ∀ (σ : am_M) (l2 : Int32), kont105 σ l2 = some res → V (wX8 σ) 105 [(0, .ref 0), (2, .int l2)] []) (σ : am_M) (l2 : Int32) (h : X8_text_B105 n kont105 σ l2 = some res) : V (wX8 σ) 105 [(0, .ref 0), (2, .int l2)] [] := by
  unfold X8_text_B105 at h
  by_cases c1 : (σ 4 (0 : Int32).toNatClampNeg) ≤ l2
  · rw [if_pos c1] at h
    refine hV.run 8 [1] (ws' := wX8 σ) (pc' := 272) (ls' := [(2, .int 0), (0, .ref 0)]) (st' := []) (ps := [vp_in (0 : Int32) 2, (σ 4 (0 : Int32).toNatClampNeg) ≤ l2]) rfl ⟨(am_inc (by decide)), c1, trivial⟩ ?_
    refine hV.pick [1, 0] (ls' := [(0, .ref 0), (2, .int 0)]) rfl ?_
    exact p_X8_text_L272 hV n res hP n σ 0 h
  · rw [if_neg c1] at h
    by_cases g2 : (40 + l2) < 0 ∨ 80 ≤ (40 + l2).toNatClampNeg
    · rw [if_pos g2] at h; cases h
    rw [if_neg g2] at h
    by_cases g3 : l2 < 0 ∨ 80 ≤ l2.toNatClampNeg
    · rw [if_pos g3] at h; cases h
    rw [if_neg g3] at h
    by_cases g4 : (40 + l2) < 0 ∨ 80 ≤ (40 + l2).toNatClampNeg
    · rw [if_pos g4] at h; cases h
    rw [if_neg g4] at h
    by_cases g5 : l2 < 0 ∨ 80 ≤ l2.toNatClampNeg
    · rw [if_pos g5] at h; cases h
    rw [if_neg g5] at h
    by_cases g6 : (40 + l2) < 0 ∨ 80 ≤ (40 + l2).toNatClampNeg
    · rw [if_pos g6] at h; cases h
    rw [if_neg g6] at h
    by_cases g7 : l2 < 0 ∨ 80 ≤ l2.toNatClampNeg
    · rw [if_pos g7] at h; cases h
    rw [if_neg g7] at h
    by_cases g8 : (40 + l2) < 0 ∨ 80 ≤ (40 + l2).toNatClampNeg
    · rw [if_pos g8] at h; cases h
    rw [if_neg g8] at h
    by_cases g9 : l2 < 0 ∨ 80 ≤ l2.toNatClampNeg
    · rw [if_pos g9] at h; cases h
    rw [if_neg g9] at h
    by_cases g10 : (40 + l2) < 0 ∨ 80 ≤ (40 + l2).toNatClampNeg
    · rw [if_pos g10] at h; cases h
    rw [if_neg g10] at h
    by_cases g11 : l2 < 0 ∨ 80 ≤ l2.toNatClampNeg
    · rw [if_pos g11] at h; cases h
    rw [if_neg g11] at h
    by_cases g12 : (40 + l2) < 0 ∨ 80 ≤ (40 + l2).toNatClampNeg
    · rw [if_pos g12] at h; cases h
    rw [if_neg g12] at h
    by_cases g13 : l2 < 0 ∨ 80 ≤ l2.toNatClampNeg
    · rw [if_pos g13] at h; cases h
    rw [if_neg g13] at h
    refine hV.run 68 [0] (ws' := wX8 (sC (sC (sC (sC (sC (sC σ 6 (upd (σ 6) l2.toNatClampNeg (σ 6 (40 + l2).toNatClampNeg))) 9 (upd (σ 9) l2.toNatClampNeg (σ 9 (40 + l2).toNatClampNeg))) 10 (upd (σ 10) l2.toNatClampNeg (σ 10 (40 + l2).toNatClampNeg))) 11 (upd (σ 11) l2.toNatClampNeg (σ 11 (40 + l2).toNatClampNeg))) 12 (upd (σ 12) l2.toNatClampNeg (σ 12 (40 + l2).toNatClampNeg))) 13 (upd (σ 13) l2.toNatClampNeg (σ 13 (40 + l2).toNatClampNeg)))) (pc' := 207) (ls' := [(3, .int 0), (0, .ref 0), (2, .int l2)]) (st' := []) (ps := [vp_in (0 : Int32) 2, ¬ (σ 4 (0 : Int32).toNatClampNeg) ≤ l2, vp_in (40 + l2) 80, vp_in l2 80, vp_in (40 + l2) 80, vp_in l2 80, vp_in (40 + l2) 80, vp_in l2 80, vp_in (40 + l2) 80, vp_in l2 80, vp_in (40 + l2) 80, vp_in l2 80, vp_in (40 + l2) 80, vp_in l2 80]) rfl ⟨(am_inc (by decide)), c1, g2, g3, g4, g5, g6, g7, g8, g9, g10, g11, g12, g13, trivial⟩ ?_
    refine hV.pick [1, 2, 0] (ls' := [(0, .ref 0), (2, .int l2), (3, .int 0)]) rfl ?_
    exact p_X8_text_L207 hV n res hP kont105 hk105 n (sC (sC (sC (sC (sC (sC σ 6 (upd (σ 6) l2.toNatClampNeg (σ 6 (40 + l2).toNatClampNeg))) 9 (upd (σ 9) l2.toNatClampNeg (σ 9 (40 + l2).toNatClampNeg))) 10 (upd (σ 10) l2.toNatClampNeg (σ 10 (40 + l2).toNatClampNeg))) 11 (upd (σ 11) l2.toNatClampNeg (σ 11 (40 + l2).toNatClampNeg))) 12 (upd (σ 12) l2.toNatClampNeg (σ 12 (40 + l2).toNatClampNeg))) 13 (upd (σ 13) l2.toNatClampNeg (σ 13 (40 + l2).toNatClampNeg))) l2 0 h
theorem p_X8_text_L105 {l : Launch} {Post : Option Value → am_W → Prop} {V : am_VT} (hV : am_B l RX8 false 619 (am_cdT' tX8_text) (am_rfL rfX8) (some .int) Post 36 V) (n : Nat) (res : (Int32 × am_M)) (hP : Post (some (.int res.1)) (wX8 res.2)) : ∀ (k : Nat) (σ : am_M) (l2 : Int32) (h : X8_text_L105 n k σ l2 = some res), V (wX8 σ) 105 [(0, .ref 0), (2, .int l2)] [] := by
  intro k
  induction k with
  | zero => intro σ l2 h; cases h
  | succ k ih => intro σ l2 h; exact p_X8_text_B105 hV n res hP _ ih σ l2 h
def X8_text (n : Nat) (σ : am_M) (a1 : Int32) : Option (Int32 × am_M) := if a1 < 0 then (X8_text_J17 n (sC σ 0 (am_u (σ 0) 2 0))) else (if a1 ≤ (σ 0 10) then (X8_stepOn n (sC (sC σ 0 (am_u (am_u (am_u (am_u (am_u (am_u (am_u (σ 0) 2 0) 10 0) 11 0) 12 a1) 18 0) 20 (-1)) 21 0)) 4 (upd (σ 4) (1 : Int32).toNatClampNeg 0))).bind (fun q3 => (X8_readStepsR n 6 q3 0 (-1)).bind (fun q4 => if (q4.2 0 18) = 0 then (X8_text_L105 n n (sC q4.2 4 (upd (q4.2 4) (0 : Int32).toNatClampNeg ((q4.2 4) (1 : Int32).toNatClampNeg))) 0) else (some ((q4.2 0 18), sC q4.2 0 (am_u (q4.2 0) 20 (q4.2 0 19)))))) else (X8_text_J17 n (sC σ 0 (am_u (σ 0) 2 0))))
set_option maxRecDepth 100000 in
set_option maxHeartbeats 4000000 in
theorem c_X8_text (l : Launch) (n : Nat) (σ : am_M) (a1 : Int32) (res : (Int32 × am_M)) (h : X8_text n σ a1 = some res) : am_Con l yX8_text cX8_text 4 (some .int) 619 [.ref 0, .int a1] (wX8 σ) (fun (r : Option Value) (w : am_W) => r = (some (.int res.1)) ∧ w = (wX8 res.2)) := by
  refine am_metn (n0 := 36) (own := RX8) (cd := am_cdT' tX8_text) (rf := am_rfL rfX8) (ini := false) rfl (by decide +kernel) rfl (by decide) dX8_text rfX8_ok (Nat.le_of_ble_eq_true rfl) ?_
  intro V hV
  have hP : (fun (r : Option Value) (w : am_W) => r = (some (.int res.1)) ∧ w = (wX8 res.2)) (some (.int res.1)) (wX8 res.2) := ⟨rfl, rfl⟩
  show V (wX8 σ) 0 [(0, .ref 0), (1, .int a1)] []
  unfold X8_text at h
  by_cases c1 : a1 < 0
  · rw [if_pos c1] at h
    refine hV.run 5 [1] (ws' := wX8 (sC σ 0 (am_u (σ 0) 2 0))) (pc' := 17) (ls' := [(0, .ref 0), (1, .int a1)]) (st' := []) (ps := [a1 < 0]) rfl ⟨c1, trivial⟩ ?_
    refine hV.pick [0] (ls' := [(0, .ref 0)]) rfl ?_
    exact p_X8_text_J17 hV n res hP (sC σ 0 (am_u (σ 0) 2 0)) h
  · rw [if_neg c1] at h
    by_cases c2 : a1 ≤ (σ 0 10)
    · rw [if_pos c2] at h
      refine hV.run 33 [0, 1] (ws' := wX8 (sC (sC σ 0 (am_u (am_u (am_u (am_u (am_u (am_u (am_u (σ 0) 2 0) 10 0) 11 0) 12 a1) 18 0) 20 (-1)) 21 0)) 4 (upd (σ 4) (1 : Int32).toNatClampNeg 0))) (pc' := 61) (ls' := [(0, .ref 0), (1, .int a1)]) (st' := [.ref 0]) (ps := [¬ a1 < 0, a1 ≤ (σ 0 10), vp_in (1 : Int32) 2]) rfl ⟨c1, c2, (am_inc (by decide)), trivial⟩ ?_
      obtain ⟨q3, hq3, h⟩ := am_bind h
      refine hV.cOv (as := []) (rest := []) (st := [.ref 0]) (ws2 := wX8 q3) (pc2 := 64) kX8_245 (c_X8_stepOn l n (sC (sC σ 0 (am_u (am_u (am_u (am_u (am_u (am_u (am_u (σ 0) 2 0) 10 0) 11 0) 12 a1) 18 0) 20 (-1)) 21 0)) 4 (upd (σ 4) (1 : Int32).toNatClampNeg 0)) q3 hq3) rfl rfl rfl rfl rfl rfl rfl rfl rfl ?_
      refine hV.run 3 [] (ws' := wX8 q3) (pc' := 67) (ls' := [(0, .ref 0), (1, .int a1)]) (st' := [.int (-1), .int 0, .ref 0]) (ps := []) rfl trivial ?_
      obtain ⟨q4, hq4, h⟩ := am_bind h
      refine hV.cOi (as := [.int 0, .int (-1)]) (rest := []) (st := [.int (-1), .int 0, .ref 0]) (ws2 := wX8 q4.2) (pc2 := 70) kX8_303 (c_X8_readStepsR l n 6 q3 0 (-1) q4 hq4) rfl rfl rfl rfl rfl rfl rfl rfl rfl ?_
      by_cases c5 : (q4.2 0 18) = 0
      · rw [if_pos c5] at h
        refine hV.run 14 [1] (ws' := wX8 (sC q4.2 4 (upd (q4.2 4) (0 : Int32).toNatClampNeg ((q4.2 4) (1 : Int32).toNatClampNeg)))) (pc' := 105) (ls' := [(2, .int 0), (0, .ref 0), (1, .int a1)]) (st' := []) (ps := [(q4.2 0 18) = 0, vp_in (1 : Int32) 2, vp_in (0 : Int32) 2]) rfl ⟨c5, (am_inc (by decide)), (am_inc (by decide)), trivial⟩ ?_
        refine hV.pick [1, 0] (ls' := [(0, .ref 0), (2, .int 0)]) rfl ?_
        exact p_X8_text_L105 hV n res hP n (sC q4.2 4 (upd (q4.2 4) (0 : Int32).toNatClampNeg ((q4.2 4) (1 : Int32).toNatClampNeg))) 0 h
      · rw [if_neg c5] at h
        refine hV.run 10 [0] (ws' := wX8 (sC q4.2 0 (am_u (q4.2 0) 20 (q4.2 0 19)))) (pc' := 90) (ls' := [(0, .ref 0), (1, .int a1)]) (st' := [.int (q4.2 0 18)]) (ps := [¬ (q4.2 0 18) = 0]) rfl ⟨c5, trivial⟩ ?_
        cases h
        exact hV.ri rfl rfl rfl hP
    · rw [if_neg c2] at h
      refine hV.run 9 [0, 0] (ws' := wX8 (sC σ 0 (am_u (σ 0) 2 0))) (pc' := 17) (ls' := [(0, .ref 0), (1, .int a1)]) (st' := []) (ps := [¬ a1 < 0, ¬ a1 ≤ (σ 0 10)]) rfl ⟨c1, c2, trivial⟩ ?_
      refine hV.pick [0] (ls' := [(0, .ref 0)]) rfl ?_
      exact p_X8_text_J17 hV n res hP (sC σ 0 (am_u (σ 0) 2 0)) h

def X8_fault (σ : am_M) : Option (Int32 × am_M) := some ((σ 0 20), sC σ 0 (am_u (σ 0) 2 0))
set_option maxRecDepth 100000 in
set_option maxHeartbeats 4000000 in
theorem c_X8_fault (l : Launch) (σ : am_M) (res : (Int32 × am_M)) (h : X8_fault σ = some res) : am_Con l yX8_fault cX8_fault 1 (some .int) 1 [.ref 0] (wX8 σ) (fun (r : Option Value) (w : am_W) => r = (some (.int res.1)) ∧ w = (wX8 res.2)) := by
  refine am_metn (n0 := 36) (own := RX8) (cd := am_cdT' tX8_fault) (rf := am_rfL rfX8) (ini := false) rfl (by decide +kernel) rfl (by decide) dX8_fault rfX8_ok (Nat.le_of_ble_eq_true rfl) ?_
  intro V hV
  have hP : (fun (r : Option Value) (w : am_W) => r = (some (.int res.1)) ∧ w = (wX8 res.2)) (some (.int res.1)) (wX8 res.2) := ⟨rfl, rfl⟩
  show V (wX8 σ) 0 [(0, .ref 0)] []
  unfold X8_fault at h
  refine hV.run 5 [] (ws' := wX8 (sC σ 0 (am_u (σ 0) 2 0))) (pc' := 9) (ls' := [(0, .ref 0)]) (st' := [.int (σ 0 20)]) (ps := []) rfl trivial ?_
  cases h
  exact hV.ri rfl rfl rfl hP

def X8_world_J60 (σ : am_M) (l1 : Int32) (l2 : Int32) (l3 : Int32) (l4 : Int32) : Option (Bool × am_M) := some (true, sC σ 0 (am_u (am_u (am_u (am_u (am_u (σ 0) 3 l1) 4 l2) 5 l3) 6 l4) 7 ((σ 0 7) + 1)))
set_option maxRecDepth 100000 in
set_option maxHeartbeats 4000000 in
theorem p_X8_world_J60 {l : Launch} {Post : Option Value → am_W → Prop} {V : am_VT} (hV : am_B l RX8 false 2 (am_cdT' tX8_world) (am_rfL rfX8) (some .boolean) Post 36 V) (res : (Bool × am_M)) (hP : Post (some (.int (b2i res.1))) (wX8 res.2)) (σ : am_M) (l1 : Int32) (l2 : Int32) (l3 : Int32) (l4 : Int32) (h : X8_world_J60 σ l1 l2 l3 l4 = some res) : V (wX8 σ) 60 [(0, .ref 0), (1, .int l1), (2, .int l2), (3, .int l3), (4, .int l4)] [] := by
  unfold X8_world_J60 at h
  refine hV.run 19 [] (ws' := wX8 (sC σ 0 (am_u (am_u (am_u (am_u (am_u (σ 0) 3 l1) 4 l2) 5 l3) 6 l4) 7 ((σ 0 7) + 1)))) (pc' := 92) (ls' := [(0, .ref 0), (1, .int l1), (2, .int l2), (3, .int l3), (4, .int l4)]) (st' := [.int 1]) (ps := []) rfl trivial ?_
  cases h
  exact hV.rz rfl rfl rfl (Or.inr rfl) hP
def X8_world (σ : am_M) (a1 : Int32) (a2 : Int32) (a3 : Int32) (a4 : Int32) : Option (Bool × am_M) := if (X8_isIn a1 2 8) = true then (if (X8_isIn a2 0 3) = true then (if (X8_isIn a3 0 99) = true then (if (X8_isIn a4 0 99) = true then (if a1 = (σ 0 3) then (X8_world_J60 (sC σ 0 (am_u (σ 0) 2 0)) a1 a2 a3 a4) else (X8_world_J60 (sC σ 0 (am_u (am_u (σ 0) 2 0) 57 (-1))) a1 a2 a3 a4)) else (some (false, sC σ 0 (am_u (σ 0) 2 0)))) else (some (false, sC σ 0 (am_u (σ 0) 2 0)))) else (some (false, sC σ 0 (am_u (σ 0) 2 0)))) else (some (false, sC σ 0 (am_u (σ 0) 2 0)))
set_option maxRecDepth 100000 in
set_option maxHeartbeats 4000000 in
theorem c_X8_world (l : Launch) (σ : am_M) (a1 : Int32) (a2 : Int32) (a3 : Int32) (a4 : Int32) (res : (Bool × am_M)) (h : X8_world σ a1 a2 a3 a4 = some res) : am_Con l yX8_world cX8_world 5 (some .boolean) 2 [.ref 0, .int a1, .int a2, .int a3, .int a4] (wX8 σ) (fun (r : Option Value) (w : am_W) => r = (some (.int (b2i res.1))) ∧ w = (wX8 res.2)) := by
  refine am_metn (n0 := 36) (own := RX8) (cd := am_cdT' tX8_world) (rf := am_rfL rfX8) (ini := false) rfl (by decide +kernel) rfl (by decide) dX8_world rfX8_ok (Nat.le_of_ble_eq_true rfl) ?_
  intro V hV
  have hP : (fun (r : Option Value) (w : am_W) => r = (some (.int (b2i res.1))) ∧ w = (wX8 res.2)) (some (.int (b2i res.1))) (wX8 res.2) := ⟨rfl, rfl⟩
  show V (wX8 σ) 0 [(0, .ref 0), (1, .int a1), (2, .int a2), (3, .int a3), (4, .int a4)] []
  unfold X8_world at h
  refine hV.run 6 [] (ws' := wX8 (sC σ 0 (am_u (σ 0) 2 0))) (pc' := 9) (ls' := [(0, .ref 0), (1, .int a1), (2, .int a2), (3, .int a3), (4, .int a4)]) (st' := [.int 8, .int 2, .int a1]) (ps := []) rfl trivial ?_
  refine hV.cSi (as := [.int a1, .int 2, .int 8]) (js := []) (rest := []) (st := [.int 8, .int 2, .int a1]) (ws2 := wX8 (sC σ 0 (am_u (σ 0) 2 0))) (pc2 := 12) kX8_276 (c_X8_isIn l a1 2 8) rfl rfl rfl rfl rfl rfl rfl rfl rfl rfl ?_
  by_cases c1 : (X8_isIn a1 2 8) = true
  · rw [if_pos c1] at h
    refine hV.run 4 [0] (ws' := wX8 (sC σ 0 (am_u (σ 0) 2 0))) (pc' := 18) (ls' := [(0, .ref 0), (1, .int a1), (2, .int a2), (3, .int a3), (4, .int a4)]) (st' := [.int 3, .int 0, .int a2]) (ps := [¬ (b2i (X8_isIn a1 2 8)) = 0]) rfl ⟨(b2i_t c1), trivial⟩ ?_
    refine hV.cSi (as := [.int a2, .int 0, .int 3]) (js := []) (rest := []) (st := [.int 3, .int 0, .int a2]) (ws2 := wX8 (sC σ 0 (am_u (σ 0) 2 0))) (pc2 := 21) kX8_276 (c_X8_isIn l a2 0 3) rfl rfl rfl rfl rfl rfl rfl rfl rfl rfl ?_
    by_cases c2 : (X8_isIn a2 0 3) = true
    · rw [if_pos c2] at h
      refine hV.run 4 [0] (ws' := wX8 (sC σ 0 (am_u (σ 0) 2 0))) (pc' := 28) (ls' := [(0, .ref 0), (1, .int a1), (2, .int a2), (3, .int a3), (4, .int a4)]) (st' := [.int 99, .int 0, .int a3]) (ps := [¬ (b2i (X8_isIn a2 0 3)) = 0]) rfl ⟨(b2i_t c2), trivial⟩ ?_
      refine hV.cSi (as := [.int a3, .int 0, .int 99]) (js := []) (rest := []) (st := [.int 99, .int 0, .int a3]) (ws2 := wX8 (sC σ 0 (am_u (σ 0) 2 0))) (pc2 := 31) kX8_276 (c_X8_isIn l a3 0 99) rfl rfl rfl rfl rfl rfl rfl rfl rfl rfl ?_
      by_cases c3 : (X8_isIn a3 0 99) = true
      · rw [if_pos c3] at h
        refine hV.run 4 [0] (ws' := wX8 (sC σ 0 (am_u (σ 0) 2 0))) (pc' := 39) (ls' := [(0, .ref 0), (1, .int a1), (2, .int a2), (3, .int a3), (4, .int a4)]) (st' := [.int 99, .int 0, .int a4]) (ps := [¬ (b2i (X8_isIn a3 0 99)) = 0]) rfl ⟨(b2i_t c3), trivial⟩ ?_
        refine hV.cSi (as := [.int a4, .int 0, .int 99]) (js := []) (rest := []) (st := [.int 99, .int 0, .int a4]) (ws2 := wX8 (sC σ 0 (am_u (σ 0) 2 0))) (pc2 := 42) kX8_276 (c_X8_isIn l a4 0 99) rfl rfl rfl rfl rfl rfl rfl rfl rfl rfl ?_
        by_cases c4 : (X8_isIn a4 0 99) = true
        · rw [if_pos c4] at h
          by_cases c5 : a1 = (σ 0 3)
          · rw [if_pos c5] at h
            refine hV.run 5 [1, 1] (ws' := wX8 (sC σ 0 (am_u (σ 0) 2 0))) (pc' := 60) (ls' := [(0, .ref 0), (1, .int a1), (2, .int a2), (3, .int a3), (4, .int a4)]) (st' := []) (ps := [¬ (b2i (X8_isIn a4 0 99)) = 0, a1 = (σ 0 3)]) rfl ⟨(b2i_t c4), c5, trivial⟩ ?_
            exact p_X8_world_J60 hV res hP (sC σ 0 (am_u (σ 0) 2 0)) a1 a2 a3 a4 h
          · rw [if_neg c5] at h
            refine hV.run 8 [1, 0] (ws' := wX8 (sC σ 0 (am_u (am_u (σ 0) 2 0) 57 (-1)))) (pc' := 60) (ls' := [(0, .ref 0), (1, .int a1), (2, .int a2), (3, .int a3), (4, .int a4)]) (st' := []) (ps := [¬ (b2i (X8_isIn a4 0 99)) = 0, ¬ a1 = (σ 0 3)]) rfl ⟨(b2i_t c4), c5, trivial⟩ ?_
            exact p_X8_world_J60 hV res hP (sC σ 0 (am_u (am_u (σ 0) 2 0) 57 (-1))) a1 a2 a3 a4 h
        · rw [if_neg c4] at h
          refine hV.run 2 [0] (ws' := wX8 (sC σ 0 (am_u (σ 0) 2 0))) (pc' := 46) (ls' := [(0, .ref 0), (1, .int a1), (2, .int a2), (3, .int a3), (4, .int a4)]) (st' := [.int 0]) (ps := [(b2i (X8_isIn a4 0 99)) = 0]) rfl ⟨(b2i_f c4), trivial⟩ ?_
          cases h
          exact hV.rz rfl rfl rfl (Or.inl rfl) hP
      · rw [if_neg c3] at h
        refine hV.run 2 [1] (ws' := wX8 (sC σ 0 (am_u (σ 0) 2 0))) (pc' := 46) (ls' := [(0, .ref 0), (1, .int a1), (2, .int a2), (3, .int a3), (4, .int a4)]) (st' := [.int 0]) (ps := [(b2i (X8_isIn a3 0 99)) = 0]) rfl ⟨(b2i_f c3), trivial⟩ ?_
        cases h
        exact hV.rz rfl rfl rfl (Or.inl rfl) hP
    · rw [if_neg c2] at h
      refine hV.run 2 [1] (ws' := wX8 (sC σ 0 (am_u (σ 0) 2 0))) (pc' := 46) (ls' := [(0, .ref 0), (1, .int a1), (2, .int a2), (3, .int a3), (4, .int a4)]) (st' := [.int 0]) (ps := [(b2i (X8_isIn a2 0 3)) = 0]) rfl ⟨(b2i_f c2), trivial⟩ ?_
      cases h
      exact hV.rz rfl rfl rfl (Or.inl rfl) hP
  · rw [if_neg c1] at h
    refine hV.run 2 [1] (ws' := wX8 (sC σ 0 (am_u (σ 0) 2 0))) (pc' := 46) (ls' := [(0, .ref 0), (1, .int a1), (2, .int a2), (3, .int a3), (4, .int a4)]) (st' := [.int 0]) (ps := [(b2i (X8_isIn a1 2 8)) = 0]) rfl ⟨(b2i_f c1), trivial⟩ ?_
    cases h
    exact hV.rz rfl rfl rfl (Or.inl rfl) hP

def X8_anySteps_J30 (n : Nat) (σ : am_M) (kont4 : Int32 → Int32 → Option Int32) (l2 : Int32) (s0 : Int32) (s1 : Int32) : Option Int32 := kont4 (s1 + s0) (l2 + 1)
set_option maxRecDepth 100000 in
set_option maxHeartbeats 4000000 in
theorem p_X8_anySteps_J30 {l : Launch} {Post : Option Value → am_W → Prop} {V : am_VT} (hV : am_B l RX8 false 1 (am_cdT' tX8_anySteps) (am_rfL rfX8) (some .int) Post 36 V) (n : Nat) (σ : am_M) (res : Int32) (hP : Post (some (.int res)) (wX8 σ)) (kont4 : Int32 → Int32 → Option Int32) (hk4 : ∀ (l1 : Int32) (l2 : Int32), kont4 l1 l2 = some res → V (wX8 σ) 4 [(0, .ref 0), (1, .int l1), (2, .int l2)] []) (l2 : Int32) (s0 : Int32) (s1 : Int32) (h : X8_anySteps_J30 n σ kont4 l2 s0 s1 = some res) : V (wX8 σ) 30 [(0, .ref 0), (2, .int l2)] [.int s0, .int s1] := by
  unfold X8_anySteps_J30 at h
  refine hV.run 4 [] (ws' := wX8 σ) (pc' := 4) (ls' := [(2, .int (l2 + 1)), (1, .int (s1 + s0)), (0, .ref 0)]) (st' := []) (ps := []) rfl trivial ?_
  refine hV.pick [2, 1, 0] (ls' := [(0, .ref 0), (1, .int (s1 + s0)), (2, .int (l2 + 1))]) rfl ?_
  exact hk4 (s1 + s0) (l2 + 1) h
def X8_anySteps_B4 (n : Nat) (σ : am_M) (kont4 : Int32 → Int32 → Option Int32) (l1 : Int32) (l2 : Int32) : Option Int32 := if (σ 4 (0 : Int32).toNatClampNeg) ≤ l2 then (some l1) else (if l2 < 0 ∨ 80 ≤ l2.toNatClampNeg then none else (if (σ 6 l2.toNatClampNeg) = 4 then (X8_anySteps_J30 n σ kont4 l2 1 l1) else (X8_anySteps_J30 n σ kont4 l2 0 l1)))
def X8_anySteps_L4 (n : Nat) (σ : am_M) : Nat → Int32 → Int32 → Option Int32
 | 0 => fun _ _ => none
 | k + 1 => fun l1 l2 => X8_anySteps_B4 n σ (X8_anySteps_L4 n σ k) l1 l2
set_option maxRecDepth 100000 in
set_option maxHeartbeats 4000000 in
theorem p_X8_anySteps_B4 {l : Launch} {Post : Option Value → am_W → Prop} {V : am_VT} (hV : am_B l RX8 false 1 (am_cdT' tX8_anySteps) (am_rfL rfX8) (some .int) Post 36 V) (n : Nat) (σ : am_M) (res : Int32) (hP : Post (some (.int res)) (wX8 σ)) (kont4 : Int32 → Int32 → Option Int32) (hk4 : ∀ (l1 : Int32) (l2 : Int32), kont4 l1 l2 = some res → V (wX8 σ) 4 [(0, .ref 0), (1, .int l1), (2, .int l2)] []) (l1 : Int32) (l2 : Int32) (h : X8_anySteps_B4 n σ kont4 l1 l2 = some res) : V (wX8 σ) 4 [(0, .ref 0), (1, .int l1), (2, .int l2)] [] := by
  unfold X8_anySteps_B4 at h
  by_cases c1 : (σ 4 (0 : Int32).toNatClampNeg) ≤ l2
  · rw [if_pos c1] at h
    refine hV.run 7 [1] (ws' := wX8 σ) (pc' := 39) (ls' := [(0, .ref 0), (1, .int l1), (2, .int l2)]) (st' := [.int l1]) (ps := [vp_in (0 : Int32) 2, (σ 4 (0 : Int32).toNatClampNeg) ≤ l2]) rfl ⟨(am_inc (by decide)), c1, trivial⟩ ?_
    cases h
    exact hV.ri rfl rfl rfl hP
  · rw [if_neg c1] at h
    by_cases g2 : l2 < 0 ∨ 80 ≤ l2.toNatClampNeg
    · rw [if_pos g2] at h; cases h
    rw [if_neg g2] at h
    by_cases c3 : (σ 6 l2.toNatClampNeg) = 4
    · rw [if_pos c3] at h
      refine hV.run 15 [0, 0] (ws' := wX8 σ) (pc' := 30) (ls' := [(0, .ref 0), (1, .int l1), (2, .int l2)]) (st' := [.int 1, .int l1]) (ps := [vp_in (0 : Int32) 2, ¬ (σ 4 (0 : Int32).toNatClampNeg) ≤ l2, vp_in l2 80, (σ 6 l2.toNatClampNeg) = 4]) rfl ⟨(am_inc (by decide)), c1, g2, c3, trivial⟩ ?_
      refine hV.pick [0, 2] (ls' := [(0, .ref 0), (2, .int l2)]) rfl ?_
      exact p_X8_anySteps_J30 hV n σ res hP kont4 hk4 l2 1 l1 h
    · rw [if_neg c3] at h
      refine hV.run 14 [0, 1] (ws' := wX8 σ) (pc' := 30) (ls' := [(0, .ref 0), (1, .int l1), (2, .int l2)]) (st' := [.int 0, .int l1]) (ps := [vp_in (0 : Int32) 2, ¬ (σ 4 (0 : Int32).toNatClampNeg) ≤ l2, vp_in l2 80, ¬ (σ 6 l2.toNatClampNeg) = 4]) rfl ⟨(am_inc (by decide)), c1, g2, c3, trivial⟩ ?_
      refine hV.pick [0, 2] (ls' := [(0, .ref 0), (2, .int l2)]) rfl ?_
      exact p_X8_anySteps_J30 hV n σ res hP kont4 hk4 l2 0 l1 h
theorem p_X8_anySteps_L4 {l : Launch} {Post : Option Value → am_W → Prop} {V : am_VT} (hV : am_B l RX8 false 1 (am_cdT' tX8_anySteps) (am_rfL rfX8) (some .int) Post 36 V) (n : Nat) (σ : am_M) (res : Int32) (hP : Post (some (.int res)) (wX8 σ)) : ∀ (k : Nat) (l1 : Int32) (l2 : Int32) (h : X8_anySteps_L4 n σ k l1 l2 = some res), V (wX8 σ) 4 [(0, .ref 0), (1, .int l1), (2, .int l2)] [] := by
  intro k
  induction k with
  | zero => intro l1 l2 h; cases h
  | succ k ih => intro l1 l2 h; exact p_X8_anySteps_B4 hV n σ res hP _ ih l1 l2 h
def X8_anySteps (n : Nat) (σ : am_M) : Option Int32 := X8_anySteps_L4 n σ n 0 0
set_option maxRecDepth 100000 in
set_option maxHeartbeats 4000000 in
theorem c_X8_anySteps (l : Launch) (n : Nat) (σ : am_M) (res : Int32) (h : X8_anySteps n σ = some res) : am_Con l yX8_anySteps cX8_anySteps 3 (some .int) 1 [.ref 0] (wX8 σ) (fun (r : Option Value) (w : am_W) => r = (some (.int res)) ∧ w = (wX8 σ)) := by
  refine am_metn (n0 := 36) (own := RX8) (cd := am_cdT' tX8_anySteps) (rf := am_rfL rfX8) (ini := false) rfl (by decide +kernel) rfl (by decide) dX8_anySteps rfX8_ok (Nat.le_of_ble_eq_true rfl) ?_
  intro V hV
  have hP : (fun (r : Option Value) (w : am_W) => r = (some (.int res)) ∧ w = (wX8 σ)) (some (.int res)) (wX8 σ) := ⟨rfl, rfl⟩
  show V (wX8 σ) 0 [(0, .ref 0)] []
  unfold X8_anySteps at h
  refine hV.run 4 [] (ws' := wX8 σ) (pc' := 4) (ls' := [(2, .int 0), (1, .int 0), (0, .ref 0)]) (st' := []) (ps := []) rfl trivial ?_
  refine hV.pick [2, 1, 0] (ls' := [(0, .ref 0), (1, .int 0), (2, .int 0)]) rfl ?_
  exact p_X8_anySteps_L4 hV n σ res hP n 0 0 h

def X8_count (n : Nat) (σ : am_M) (a1 : Int32) : Option (Int32 × am_M) := if a1 = 0 then (some ((σ 4 (0 : Int32).toNatClampNeg), sC σ 0 (am_u (σ 0) 2 0))) else (if a1 = 1 then (X8_anySteps n (sC σ 0 (am_u (σ 0) 2 0))).bind (fun q3 => some (q3, sC σ 0 (am_u (σ 0) 2 0))) else (if a1 = 2 then (some ((σ 0 3), sC σ 0 (am_u (σ 0) 2 0))) else (if a1 = 3 then (some ((σ 0 4), sC σ 0 (am_u (σ 0) 2 0))) else (if a1 = 4 then (some ((σ 0 5), sC σ 0 (am_u (σ 0) 2 0))) else (if a1 = 5 then (some ((σ 0 6), sC σ 0 (am_u (σ 0) 2 0))) else (if a1 = 6 then (some ((σ 0 10), sC σ 0 (am_u (σ 0) 2 0))) else (X8_fail (sC σ 0 (am_u (σ 0) 2 0)) 1).bind (fun q9 => some (q9.1, q9.2))))))))
set_option maxRecDepth 100000 in
set_option maxHeartbeats 4000000 in
theorem c_X8_count (l : Launch) (n : Nat) (σ : am_M) (a1 : Int32) (res : (Int32 × am_M)) (h : X8_count n σ a1 = some res) : am_Con l yX8_count cX8_count 2 (some .int) 2 [.ref 0, .int a1] (wX8 σ) (fun (r : Option Value) (w : am_W) => r = (some (.int res.1)) ∧ w = (wX8 res.2)) := by
  refine am_metn (n0 := 36) (own := RX8) (cd := am_cdT' tX8_count) (rf := am_rfL rfX8) (ini := false) rfl (by decide +kernel) rfl (by decide) dX8_count rfX8_ok (Nat.le_of_ble_eq_true rfl) ?_
  intro V hV
  have hP : (fun (r : Option Value) (w : am_W) => r = (some (.int res.1)) ∧ w = (wX8 res.2)) (some (.int res.1)) (wX8 res.2) := ⟨rfl, rfl⟩
  show V (wX8 σ) 0 [(0, .ref 0), (1, .int a1)] []
  unfold X8_count at h
  by_cases c1 : a1 = 0
  · rw [if_pos c1] at h
    refine hV.run 9 [1] (ws' := wX8 (sC σ 0 (am_u (σ 0) 2 0))) (pc' := 54) (ls' := [(0, .ref 0), (1, .int a1)]) (st' := [.int (σ 4 (0 : Int32).toNatClampNeg)]) (ps := [a1.toInt = 0 + ((0 : Nat) : Int), 0 < 7, ¬ 6 < a1.toInt, vp_in (0 : Int32) 2]) rfl ⟨(by rw [c1]; decide), (by decide), (by rw [c1]; decide), (am_inc (by decide)), trivial⟩ ?_
    cases h
    exact hV.ri rfl rfl rfl hP
  · rw [if_neg c1] at h
    by_cases c2 : a1 = 1
    · rw [if_pos c2] at h
      refine hV.run 6 [2] (ws' := wX8 (sC σ 0 (am_u (σ 0) 2 0))) (pc' := 56) (ls' := [(0, .ref 0), (1, .int a1)]) (st' := [.ref 0]) (ps := [a1.toInt = 0 + ((1 : Nat) : Int), 1 < 7, ¬ 6 < a1.toInt]) rfl ⟨(by rw [c2]; decide), (by decide), (by rw [c2]; decide), trivial⟩ ?_
      obtain ⟨q3, hq3, h⟩ := am_bind h
      refine hV.cOi (as := []) (rest := []) (st := [.ref 0]) (ws2 := wX8 (sC σ 0 (am_u (σ 0) 2 0))) (pc2 := 59) kX8_331 (c_X8_anySteps l n (sC σ 0 (am_u (σ 0) 2 0)) q3 hq3) rfl rfl rfl rfl rfl rfl rfl rfl rfl ?_
      cases h
      exact hV.ri rfl rfl rfl hP
    · rw [if_neg c2] at h
      by_cases c4 : a1 = 2
      · rw [if_pos c4] at h
        refine hV.run 7 [3] (ws' := wX8 (sC σ 0 (am_u (σ 0) 2 0))) (pc' := 64) (ls' := [(0, .ref 0), (1, .int a1)]) (st' := [.int (σ 0 3)]) (ps := [a1.toInt = 0 + ((2 : Nat) : Int), 2 < 7, ¬ 6 < a1.toInt]) rfl ⟨(by rw [c4]; decide), (by decide), (by rw [c4]; decide), trivial⟩ ?_
        cases h
        exact hV.ri rfl rfl rfl hP
      · rw [if_neg c4] at h
        by_cases c5 : a1 = 3
        · rw [if_pos c5] at h
          refine hV.run 7 [4] (ws' := wX8 (sC σ 0 (am_u (σ 0) 2 0))) (pc' := 69) (ls' := [(0, .ref 0), (1, .int a1)]) (st' := [.int (σ 0 4)]) (ps := [a1.toInt = 0 + ((3 : Nat) : Int), 3 < 7, ¬ 6 < a1.toInt]) rfl ⟨(by rw [c5]; decide), (by decide), (by rw [c5]; decide), trivial⟩ ?_
          cases h
          exact hV.ri rfl rfl rfl hP
        · rw [if_neg c5] at h
          by_cases c6 : a1 = 4
          · rw [if_pos c6] at h
            refine hV.run 7 [5] (ws' := wX8 (sC σ 0 (am_u (σ 0) 2 0))) (pc' := 74) (ls' := [(0, .ref 0), (1, .int a1)]) (st' := [.int (σ 0 5)]) (ps := [a1.toInt = 0 + ((4 : Nat) : Int), 4 < 7, ¬ 6 < a1.toInt]) rfl ⟨(by rw [c6]; decide), (by decide), (by rw [c6]; decide), trivial⟩ ?_
            cases h
            exact hV.ri rfl rfl rfl hP
          · rw [if_neg c6] at h
            by_cases c7 : a1 = 5
            · rw [if_pos c7] at h
              refine hV.run 7 [6] (ws' := wX8 (sC σ 0 (am_u (σ 0) 2 0))) (pc' := 79) (ls' := [(0, .ref 0), (1, .int a1)]) (st' := [.int (σ 0 6)]) (ps := [a1.toInt = 0 + ((5 : Nat) : Int), 5 < 7, ¬ 6 < a1.toInt]) rfl ⟨(by rw [c7]; decide), (by decide), (by rw [c7]; decide), trivial⟩ ?_
              cases h
              exact hV.ri rfl rfl rfl hP
            · rw [if_neg c7] at h
              by_cases c8 : a1 = 6
              · rw [if_pos c8] at h
                refine hV.run 7 [7] (ws' := wX8 (sC σ 0 (am_u (σ 0) 2 0))) (pc' := 84) (ls' := [(0, .ref 0), (1, .int a1)]) (st' := [.int (σ 0 10)]) (ps := [a1.toInt = 0 + ((6 : Nat) : Int), 6 < 7, ¬ 6 < a1.toInt]) rfl ⟨(by rw [c8]; decide), (by decide), (by rw [c8]; decide), trivial⟩ ?_
                cases h
                exact hV.ri rfl rfl rfl hP
              · rw [if_neg c8] at h
                refine hV.run 7 [0] (ws' := wX8 (sC σ 0 (am_u (σ 0) 2 0))) (pc' := 87) (ls' := [(0, .ref 0), (1, .int a1)]) (st' := [.int 1, .ref 0]) (ps := [a1.toInt < 0 ∨ 6 < a1.toInt]) rfl ⟨(by have c1_ := am_ne c1 (by decide : (0 : Int32).toInt = 0); have c2_ := am_ne c2 (by decide : (1 : Int32).toInt = 1); have c4_ := am_ne c4 (by decide : (2 : Int32).toInt = 2); have c5_ := am_ne c5 (by decide : (3 : Int32).toInt = 3); have c6_ := am_ne c6 (by decide : (4 : Int32).toInt = 4); have c7_ := am_ne c7 (by decide : (5 : Int32).toInt = 5); have c8_ := am_ne c8 (by decide : (6 : Int32).toInt = 6); omega), trivial⟩ ?_
                obtain ⟨q9, hq9, h⟩ := am_bind h
                refine hV.cOi (as := [.int 1]) (rest := []) (st := [.int 1, .ref 0]) (ws2 := wX8 q9.2) (pc2 := 90) kX8_313 (c_X8_fail l (sC σ 0 (am_u (σ 0) 2 0)) 1 q9 hq9) rfl rfl rfl rfl rfl rfl rfl rfl rfl ?_
                cases h
                exact hV.ri rfl rfl rfl hP

def X8_isStep (σ : am_M) (a1 : Int32) : Bool := (X8_isIn a1 0 ((σ 4 (0 : Int32).toNatClampNeg) - 1))
set_option maxRecDepth 100000 in
set_option maxHeartbeats 4000000 in
theorem c_X8_isStep (l : Launch) (σ : am_M) (a1 : Int32) : am_Con l yX8_isStep cX8_isStep 2 (some .boolean) 2 [.ref 0, .int a1] (wX8 σ) (fun (r : Option Value) (w : am_W) => r = (some (.int (b2i (X8_isStep σ a1)))) ∧ w = (wX8 σ)) := by
  obtain ⟨res, h⟩ : ∃ res, (X8_isStep σ a1) = res := ⟨_, rfl⟩
  rw [h]
  refine am_metn (n0 := 36) (own := RX8) (cd := am_cdT' tX8_isStep) (rf := am_rfL rfX8) (ini := false) rfl (by decide +kernel) rfl (by decide) dX8_isStep rfX8_ok (Nat.le_of_ble_eq_true rfl) ?_
  intro V hV
  have hP : (fun (r : Option Value) (w : am_W) => r = (some (.int (b2i res))) ∧ w = (wX8 σ)) (some (.int (b2i res))) (wX8 σ) := ⟨rfl, rfl⟩
  show V (wX8 σ) 0 [(0, .ref 0), (1, .int a1)] []
  unfold X8_isStep at h
  refine hV.run 8 [] (ws' := wX8 σ) (pc' := 10) (ls' := [(0, .ref 0), (1, .int a1)]) (st' := [.int ((σ 4 (0 : Int32).toNatClampNeg) - 1), .int 0, .int a1]) (ps := [vp_in (0 : Int32) 2]) rfl ⟨(am_inc (by decide)), trivial⟩ ?_
  refine hV.cSi (as := [.int a1, .int 0, .int ((σ 4 (0 : Int32).toNatClampNeg) - 1)]) (js := []) (rest := []) (st := [.int ((σ 4 (0 : Int32).toNatClampNeg) - 1), .int 0, .int a1]) (ws2 := wX8 σ) (pc2 := 13) kX8_276 (c_X8_isIn l a1 0 ((σ 4 (0 : Int32).toNatClampNeg) - 1)) rfl rfl rfl rfl rfl rfl rfl rfl rfl rfl ?_
  subst h
  exact hV.rz rfl rfl rfl (b2i_01 _) hP

