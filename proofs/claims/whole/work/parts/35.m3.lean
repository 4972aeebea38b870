def X8_takeAway_B95 (n : Nat) (kont95 : am_M → Int32 → Int32 → Option am_M) (σ : am_M) (l2 : Int32) (l3 : Int32) : Option am_M := if 6 ≤ l3 then (some σ) else (if (l2 + l3) < 0 ∨ 1985 ≤ (l2 + l3).toNatClampNeg then none else (kont95 (sC σ 15 (upd (σ 15) (l2 + l3).toNatClampNeg 0)) l2 (l3 + 1)))
def X8_takeAway_L95 (n : Nat) : Nat → am_M → Int32 → Int32 → Option am_M
 | 0 => fun _ _ _ => none
 | k + 1 => fun σ l2 l3 => X8_takeAway_B95 n (X8_takeAway_L95 n k) σ l2 l3
set_option maxRecDepth 100000 in
set_option maxHeartbeats 4000000 in
theorem p_X8_takeAway_B95 {l : Launch} {Post : Option Value → am_W → Prop} {V : am_VT} (hV : am_B l RX8 false 2 (am_cdT' tX8_takeAway) (am_rfL rfX8) none Post 36 V) (n : Nat) (res : am_M) (hP : Post none (wX8 res)) (kont95 : am_M → Int32 → Int32 → Option am_M) (hk95 : ∀ (σ : am_M) (l2 : Int32) (l3 : Int32), kont95 σ l2 l3 = some res → V (wX8 σ) 95 [(0, .ref 0), (2, .int l2), (3, .int l3)] []) (σ : am_M) (l2 : Int32) (l3 : Int32) (h : X8_takeAway_B95 n kont95 σ l2 l3 = some res) : V (wX8 σ) 95 [(0, .ref 0), (2, .int l2), (3, .int l3)] [] := by
  unfold X8_takeAway_B95 at h
  by_cases c1 : 6 ≤ l3
  · rw [if_pos c1] at h
    refine hV.run 3 [1] (ws' := wX8 σ) (pc' := 116) (ls' := [(0, .ref 0), (2, .int l2), (3, .int l3)]) (st' := []) (ps := [6 ≤ l3]) rfl ⟨c1, trivial⟩ ?_
    cases h
    exact hV.rv rfl rfl rfl hP
  · rw [if_neg c1] at h
    by_cases g2 : (l2 + l3) < 0 ∨ 1985 ≤ (l2 + l3).toNatClampNeg
    · rw [if_pos g2] at h; cases h
    rw [if_neg g2] at h
    refine hV.run 12 [0] (ws' := wX8 (sC σ 15 (upd (σ 15) (l2 + l3).toNatClampNeg 0))) (pc' := 95) (ls' := [(3, .int (l3 + 1)), (0, .ref 0), (2, .int l2)]) (st' := []) (ps := [¬ 6 ≤ l3, vp_in (l2 + l3) 1985]) rfl ⟨c1, g2, trivial⟩ ?_
    refine hV.pick [1, 2, 0] (ls' := [(0, .ref 0), (2, .int l2), (3, .int (l3 + 1))]) rfl ?_
    exact hk95 (sC σ 15 (upd (σ 15) (l2 + l3).toNatClampNeg 0)) l2 (l3 + 1) h
theorem p_X8_takeAway_L95 {l : Launch} {Post : Option Value → am_W → Prop} {V : am_VT} (hV : am_B l RX8 false 2 (am_cdT' tX8_takeAway) (am_rfL rfX8) none Post 36 V) (n : Nat) (res : am_M) (hP : Post none (wX8 res)) : ∀ (k : Nat) (σ : am_M) (l2 : Int32) (l3 : Int32) (h : X8_takeAway_L95 n k σ l2 l3 = some res), V (wX8 σ) 95 [(0, .ref 0), (2, .int l2), (3, .int l3)] [] := by
  intro k
  induction k with
  | zero => intro σ l2 l3 h; cases h
  | succ k ih => intro σ l2 l3 h; exact p_X8_takeAway_B95 hV n res hP _ ih σ l2 l3 h
def X8_takeAway_B20 (n : Nat) (kont2 : am_M → Int32 → Option am_M) (kont20 : am_M → Int32 → Int32 → Int32 → Option am_M) (σ : am_M) (l2 : Int32) (l3 : Int32) (l4 : Int32) : Option am_M := if 6 ≤ l4 then (if (l2 + 1) < 0 ∨ 321 ≤ (l2 + 1).toNatClampNeg then none else (if l2 < 0 ∨ 321 ≤ l2.toNatClampNeg then none else (kont2 (sC σ 20 (upd (σ 20) l2.toNatClampNeg (σ 20 (l2 + 1).toNatClampNeg))) (l2 + 1)))) else (if ((l3 + 6) + l4) < 0 ∨ 1985 ≤ ((l3 + 6) + l4).toNatClampNeg then none else (if (l3 + l4) < 0 ∨ 1985 ≤ (l3 + l4).toNatClampNeg then none else (kont20 (sC σ 15 (upd (σ 15) (l3 + l4).toNatClampNeg (σ 15 ((l3 + 6) + l4).toNatClampNeg))) l2 l3 (l4 + 1))))
def X8_takeAway_L20 (n : Nat) (kont2 : am_M → Int32 → Option am_M) : Nat → am_M → Int32 → Int32 → Int32 → Option am_M
 | 0 => fun _ _ _ _ => none
 | k + 1 => fun σ l2 l3 l4 => X8_takeAway_B20 n kont2 (X8_takeAway_L20 n kont2 k) σ l2 l3 l4
set_option maxRecDepth 100000 in
set_option maxHeartbeats 4000000 in
theorem p_X8_takeAway_B20 {l : Launch} {Post : Option Value → am_W → Prop} {V : am_VT} (hV : am_B l RX8 false 2 (am_cdT' tX8_takeAway) (am_rfL rfX8) none Post 36 V) (n : Nat) (res : am_M) (hP : Post none (wX8 res)) (kont2 : am_M → Int32 → Option am_M) (hk2 : ∀ (σ : am_M) (l2 : Int32), kont2 σ l2 = some res → V (wX8 σ) 2 [(0, .ref 0), (2, .int l2)] []) (kont20 : am_M → Int32 → Int32 → Int32 → Option am_M) (hk20 : ∀ (σ : am_M) (l2 : Int32) (l3 : Int32) (l4 : Int32), kont20 σ l2 l3 l4 = some res → V (wX8 σ) 20 [(0, .ref 0), (2, .int l2), (3, .int l3), (4, .int l4)] []) (σ : am_M) (l2 : Int32) (l3 : Int32) (l4 : Int32) (h : X8_takeAway_B20 n kont2 kont20 σ l2 l3 l4 = some res) : V (wX8 σ) 20 [(0, .ref 0), (2, .int l2), (3, .int l3), (4, .int l4)] [] := by
  unfold X8_takeAway_B20 at h
  by_cases c1 : 6 ≤ l4
  · rw [if_pos c1] at h
    by_cases g2 : (l2 + 1) < 0 ∨ 321 ≤ (l2 + 1).toNatClampNeg
    · rw [if_pos g2] at h; cases h
    rw [if_neg g2] at h
    by_cases g3 : l2 < 0 ∨ 321 ≤ l2.toNatClampNeg
    · rw [if_pos g3] at h; cases h
    rw [if_neg g3] at h
    refine hV.run 15 [1] (ws' := wX8 (sC σ 20 (upd (σ 20) l2.toNatClampNeg (σ 20 (l2 + 1).toNatClampNeg)))) (pc' := 2) (ls' := [(2, .int (l2 + 1)), (0, .ref 0), (3, .int l3), (4, .int l4)]) (st' := []) (ps := [6 ≤ l4, vp_in (l2 + 1) 321, vp_in l2 321]) rfl ⟨c1, g2, g3, trivial⟩ ?_
    refine hV.pick [1, 0] (ls' := [(0, .ref 0), (2, .int (l2 + 1))]) rfl ?_
    exact hk2 (sC σ 20 (upd (σ 20) l2.toNatClampNeg (σ 20 (l2 + 1).toNatClampNeg))) (l2 + 1) h
  · rw [if_neg c1] at h
    by_cases g4 : ((l3 + 6) + l4) < 0 ∨ 1985 ≤ ((l3 + 6) + l4).toNatClampNeg
    · rw [if_pos g4] at h; cases h
    rw [if_neg g4] at h
    by_cases g5 : (l3 + l4) < 0 ∨ 1985 ≤ (l3 + l4).toNatClampNeg
    · rw [if_pos g5] at h; cases h
    rw [if_neg g5] at h
    refine hV.run 19 [0] (ws' := wX8 (sC σ 15 (upd (σ 15) (l3 + l4).toNatClampNeg (σ 15 ((l3 + 6) + l4).toNatClampNeg)))) (pc' := 20) (ls' := [(4, .int (l4 + 1)), (0, .ref 0), (2, .int l2), (3, .int l3)]) (st' := []) (ps := [¬ 6 ≤ l4, vp_in ((l3 + 6) + l4) 1985, vp_in (l3 + l4) 1985]) rfl ⟨c1, g4, g5, trivial⟩ ?_
    refine hV.pick [1, 2, 3, 0] (ls' := [(0, .ref 0), (2, .int l2), (3, .int l3), (4, .int (l4 + 1))]) rfl ?_
    exact hk20 (sC σ 15 (upd (σ 15) (l3 + l4).toNatClampNeg (σ 15 ((l3 + 6) + l4).toNatClampNeg))) l2 l3 (l4 + 1) h
theorem p_X8_takeAway_L20 {l : Launch} {Post : Option Value → am_W → Prop} {V : am_VT} (hV : am_B l RX8 false 2 (am_cdT' tX8_takeAway) (am_rfL rfX8) none Post 36 V) (n : Nat) (res : am_M) (hP : Post none (wX8 res)) (kont2 : am_M → Int32 → Option am_M) (hk2 : ∀ (σ : am_M) (l2 : Int32), kont2 σ l2 = some res → V (wX8 σ) 2 [(0, .ref 0), (2, .int l2)] []) : ∀ (k : Nat) (σ : am_M) (l2 : Int32) (l3 : Int32) (l4 : Int32) (h : X8_takeAway_L20 n kont2 k σ l2 l3 l4 = some res), V (wX8 σ) 20 [(0, .ref 0), (2, .int l2), (3, .int l3), (4, .int l4)] [] := by
  intro k
  induction k with
  | zero => intro σ l2 l3 l4 h; cases h
  | succ k ih => intro σ l2 l3 l4 h; exact p_X8_takeAway_B20 hV n res hP kont2 hk2 _ ih σ l2 l3 l4 h
def X8_takeAway_B2 (n : Nat) (kont2 : am_M → Int32 → Option am_M) (σ : am_M) (l2 : Int32) : Option am_M := if (X8_words σ) ≤ (l2 + 1) then (X8_takeAway_L95 n n (sC σ 15 (upd (σ 15) (64 : Int32).toNatClampNeg ((σ 15 (64 : Int32).toNatClampNeg) - 1))) (X8_wordAt (X8_words (sC σ 15 (upd (σ 15) (64 : Int32).toNatClampNeg ((σ 15 (64 : Int32).toNatClampNeg) - 1))))) 0) else (X8_takeAway_L20 n kont2 n σ l2 (X8_wordAt l2) 0)
def X8_takeAway_L2 (n : Nat) : Nat → am_M → Int32 → Option am_M
 | 0 => fun _ _ => none
 | k + 1 => fun σ l2 => X8_takeAway_B2 n (X8_takeAway_L2 n k) σ l2
set_option maxRecDepth 100000 in
set_option maxHeartbeats 4000000 in
theorem p_X8_takeAway_B2 {l : Launch} {Post : Option Value → am_W → Prop} {V : am_VT} (hV : am_B l RX8 false 2 (am_cdT' tX8_takeAway) (am_rfL rfX8) none Post 36 V) (n : Nat) (res : am_M) (hP : Post none (wX8 res)) (kont2 : am_M → Int32 → Option am_M) (hk2 : ∀ (σ : am_M) (l2 : Int32), kont2 σ l2 = some res → V (wX8 σ) 2 [(0, .ref 0), (2, .int l2)] []) (σ : am_M) (l2 : Int32) (h : X8_takeAway_B2 n kont2 σ l2 = some res) : V (wX8 σ) 2 [(0, .ref 0), (2, .int l2)] [] := by
  unfold X8_takeAway_B2 at h
  refine hV.run 4 [] (ws' := wX8 σ) (pc' := 6) (ls' := [(0, .ref 0), (2, .int l2)]) (st' := [.ref 0, .int (l2 + 1)]) (ps := []) rfl trivial ?_
  refine hV.cOi (as := []) (rest := [.int (l2 + 1)]) (st := [.ref 0, .int (l2 + 1)]) (ws2 := wX8 σ) (pc2 := 9) kX8_363 (c_X8_words l σ) rfl rfl rfl rfl rfl rfl rfl rfl rfl ?_
  by_cases c1 : (X8_words σ) ≤ (l2 + 1)
  · rw [if_pos c1] at h
    refine hV.run 10 [1] (ws' := wX8 (sC σ 15 (upd (σ 15) (64 : Int32).toNatClampNeg ((σ 15 (64 : Int32).toNatClampNeg) - 1)))) (pc' := 86) (ls' := [(0, .ref 0), (2, .int l2)]) (st' := [.ref 0]) (ps := [(X8_words σ) ≤ (l2 + 1), vp_in (64 : Int32) 1985, vp_in (64 : Int32) 1985]) rfl ⟨c1, (am_inc (by decide)), (am_inc (by decide)), trivial⟩ ?_
    refine hV.cOi (as := []) (rest := []) (st := [.ref 0]) (ws2 := wX8 (sC σ 15 (upd (σ 15) (64 : Int32).toNatClampNeg ((σ 15 (64 : Int32).toNatClampNeg) - 1)))) (pc2 := 89) kX8_363 (c_X8_words l (sC σ 15 (upd (σ 15) (64 : Int32).toNatClampNeg ((σ 15 (64 : Int32).toNatClampNeg) - 1)))) rfl rfl rfl rfl rfl rfl rfl rfl rfl ?_
    refine hV.cSi (as := [.int (X8_words (sC σ 15 (upd (σ 15) (64 : Int32).toNatClampNeg ((σ 15 (64 : Int32).toNatClampNeg) - 1))))]) (js := []) (rest := []) (st := [.int (X8_words (sC σ 15 (upd (σ 15) (64 : Int32).toNatClampNeg ((σ 15 (64 : Int32).toNatClampNeg) - 1))))]) (ws2 := wX8 (sC σ 15 (upd (σ 15) (64 : Int32).toNatClampNeg ((σ 15 (64 : Int32).toNatClampNeg) - 1)))) (pc2 := 92) kX8_366 (c_X8_wordAt l (X8_words (sC σ 15 (upd (σ 15) (64 : Int32).toNatClampNeg ((σ 15 (64 : Int32).toNatClampNeg) - 1))))) rfl rfl rfl rfl rfl rfl rfl rfl rfl rfl ?_
    refine hV.run 3 [] (ws' := wX8 (sC σ 15 (upd (σ 15) (64 : Int32).toNatClampNeg ((σ 15 (64 : Int32).toNatClampNeg) - 1)))) (pc' := 95) (ls' := [(3, .int 0), (2, .int (X8_wordAt (X8_words (sC σ 15 (upd (σ 15) (64 : Int32).toNatClampNeg ((σ 15 (64 : Int32).toNatClampNeg) - 1)))))), (0, .ref 0)]) (st' := []) (ps := []) rfl trivial ?_
    refine hV.pick [2, 1, 0] (ls' := [(0, .ref 0), (2, .int (X8_wordAt (X8_words (sC σ 15 (upd (σ 15) (64 : Int32).toNatClampNeg ((σ 15 (64 : Int32).toNatClampNeg) - 1)))))), (3, .int 0)]) rfl ?_
    exact p_X8_takeAway_L95 hV n res hP n (sC σ 15 (upd (σ 15) (64 : Int32).toNatClampNeg ((σ 15 (64 : Int32).toNatClampNeg) - 1))) (X8_wordAt (X8_words (sC σ 15 (upd (σ 15) (64 : Int32).toNatClampNeg ((σ 15 (64 : Int32).toNatClampNeg) - 1))))) 0 h
  · rw [if_neg c1] at h
    refine hV.run 2 [0] (ws' := wX8 σ) (pc' := 13) (ls' := [(0, .ref 0), (2, .int l2)]) (st' := [.int l2]) (ps := [¬ (X8_words σ) ≤ (l2 + 1)]) rfl ⟨c1, trivial⟩ ?_
    refine hV.cSi (as := [.int l2]) (js := []) (rest := []) (st := [.int l2]) (ws2 := wX8 σ) (pc2 := 16) kX8_366 (c_X8_wordAt l l2) rfl rfl rfl rfl rfl rfl rfl rfl rfl rfl ?_
    refine hV.run 3 [] (ws' := wX8 σ) (pc' := 20) (ls' := [(4, .int 0), (3, .int (X8_wordAt l2)), (0, .ref 0), (2, .int l2)]) (st' := []) (ps := []) rfl trivial ?_
    refine hV.pick [2, 3, 1, 0] (ls' := [(0, .ref 0), (2, .int l2), (3, .int (X8_wordAt l2)), (4, .int 0)]) rfl ?_
    exact p_X8_takeAway_L20 hV n res hP kont2 hk2 n σ l2 (X8_wordAt l2) 0 h
theorem p_X8_takeAway_L2 {l : Launch} {Post : Option Value → am_W → Prop} {V : am_VT} (hV : am_B l RX8 false 2 (am_cdT' tX8_takeAway) (am_rfL rfX8) none Post 36 V) (n : Nat) (res : am_M) (hP : Post none (wX8 res)) : ∀ (k : Nat) (σ : am_M) (l2 : Int32) (h : X8_takeAway_L2 n k σ l2 = some res), V (wX8 σ) 2 [(0, .ref 0), (2, .int l2)] [] := by
  intro k
  induction k with
  | zero => intro σ l2 h; cases h
  | succ k ih => intro σ l2 h; exact p_X8_takeAway_B2 hV n res hP _ ih σ l2 h
def X8_takeAway (n : Nat) (σ : am_M) (a1 : Int32) : Option am_M := X8_takeAway_L2 n n σ a1
set_option maxRecDepth 100000 in
set_option maxHeartbeats 4000000 in
theorem c_X8_takeAway (l : Launch) (n : Nat) (σ : am_M) (a1 : Int32) (res : am_M) (h : X8_takeAway n σ a1 = some res) : am_Con l yX8_takeAway cX8_takeAway 5 none 2 [.ref 0, .int a1] (wX8 σ) (fun (r : Option Value) (w : am_W) => r = none ∧ w = (wX8 res)) := by
  refine am_metn (n0 := 36) (own := RX8) (cd := am_cdT' tX8_takeAway) (rf := am_rfL rfX8) (ini := false) rfl (by decide +kernel) rfl (by decide) dX8_takeAway rfX8_ok (Nat.le_of_ble_eq_true rfl) ?_
  intro V hV
  have hP : (fun (r : Option Value) (w : am_W) => r = none ∧ w = (wX8 res)) none (wX8 res) := ⟨rfl, rfl⟩
  show V (wX8 σ) 0 [(0, .ref 0), (1, .int a1)] []
  unfold X8_takeAway at h
  refine hV.run 2 [] (ws' := wX8 σ) (pc' := 2) (ls' := [(2, .int a1), (0, .ref 0), (1, .int a1)]) (st' := []) (ps := []) rfl trivial ?_
  refine hV.pick [1, 0] (ls' := [(0, .ref 0), (2, .int a1)]) rfl ?_
  exact p_X8_takeAway_L2 hV n res hP n σ a1 h

def X8_has (n : Nat) (σ : am_M) (a1 : Int32) (a2 : Int32) (a3 : Int32) (a4 : Int32) : Option am_M := (X8_own σ a1 0).bind (fun q1 => if q1 < 0 ∨ 80 ≤ q1.toNatClampNeg then none else (X8_put σ a1 (2 + (σ 9 q1.toNatClampNeg)) a3).bind (fun q3 => (X8_put q3 a1 6 a2).bind (fun q4 => if q1 < 0 ∨ 80 ≤ q1.toNatClampNeg then none else (if a4 ≤ (q4 10 q1.toNatClampNeg) then (X8_goOn n q4 a1).bind (fun q7 => some q7) else (X8_put q4 a1 1 1).bind (fun q8 => some q8)))))
set_option maxRecDepth 100000 in
set_option maxHeartbeats 4000000 in
theorem c_X8_has (l : Launch) (n : Nat) (σ : am_M) (a1 : Int32) (a2 : Int32) (a3 : Int32) (a4 : Int32) (res : am_M) (h : X8_has n σ a1 a2 a3 a4 = some res) : am_Con l yX8_has cX8_has 6 none 7 [.ref 0, .int a1, .int a2, .int a3, .int a4] (wX8 σ) (fun (r : Option Value) (w : am_W) => r = none ∧ w = (wX8 res)) := by
  refine am_metn (n0 := 36) (own := RX8) (cd := am_cdT' tX8_has) (rf := am_rfL rfX8) (ini := false) rfl (by decide +kernel) rfl (by decide) dX8_has rfX8_ok (Nat.le_of_ble_eq_true rfl) ?_
  intro V hV
  have hP : (fun (r : Option Value) (w : am_W) => r = none ∧ w = (wX8 res)) none (wX8 res) := ⟨rfl, rfl⟩
  show V (wX8 σ) 0 [(0, .ref 0), (1, .int a1), (2, .int a2), (3, .int a3), (4, .int a4)] []
  unfold X8_has at h
  refine hV.run 3 [] (ws' := wX8 σ) (pc' := 3) (ls' := [(0, .ref 0), (1, .int a1), (2, .int a2), (3, .int a3), (4, .int a4)]) (st' := [.int 0, .int a1, .ref 0]) (ps := []) rfl trivial ?_
  obtain ⟨q1, hq1, h⟩ := am_bind h
  refine hV.cOi (as := [.int a1, .int 0]) (rest := []) (st := [.int 0, .int a1, .ref 0]) (ws2 := wX8 σ) (pc2 := 6) kX8_337 (c_X8_own l σ a1 0 q1 hq1) rfl rfl rfl rfl rfl rfl rfl rfl rfl ?_
  by_cases g2 : q1 < 0 ∨ 80 ≤ q1.toNatClampNeg
  · rw [if_pos g2] at h; cases h
  rw [if_neg g2] at h
  refine hV.run 10 [] (ws' := wX8 σ) (pc' := 20) (ls' := [(5, .int q1), (0, .ref 0), (1, .int a1), (2, .int a2), (3, .int a3), (4, .int a4)]) (st' := [.int a3, .int (2 + (σ 9 q1.toNatClampNeg)), .int a1, .ref 0]) (ps := [vp_in q1 80]) rfl ⟨g2, trivial⟩ ?_
  obtain ⟨q3, hq3, h⟩ := am_bind h
  refine hV.cOv (as := [.int a1, .int (2 + (σ 9 q1.toNatClampNeg)), .int a3]) (rest := []) (st := [.int a3, .int (2 + (σ 9 q1.toNatClampNeg)), .int a1, .ref 0]) (ws2 := wX8 q3) (pc2 := 23) kX8_350 (c_X8_put l σ a1 (2 + (σ 9 q1.toNatClampNeg)) a3 q3 hq3) rfl rfl rfl rfl rfl rfl rfl rfl rfl ?_
  refine hV.run 4 [] (ws' := wX8 q3) (pc' := 28) (ls' := [(5, .int q1), (0, .ref 0), (1, .int a1), (2, .int a2), (3, .int a3), (4, .int a4)]) (st' := [.int a2, .int 6, .int a1, .ref 0]) (ps := []) rfl trivial ?_
  obtain ⟨q4, hq4, h⟩ := am_bind h
  refine hV.cOv (as := [.int a1, .int 6, .int a2]) (rest := []) (st := [.int a2, .int 6, .int a1, .ref 0]) (ws2 := wX8 q4) (pc2 := 31) kX8_350 (c_X8_put l q3 a1 6 a2 q4 hq4) rfl rfl rfl rfl rfl rfl rfl rfl rfl ?_
  by_cases g5 : q1 < 0 ∨ 80 ≤ q1.toNatClampNeg
  · rw [if_pos g5] at h; cases h
  rw [if_neg g5] at h
  by_cases c6 : a4 ≤ (q4 10 q1.toNatClampNeg)
  · rw [if_pos c6] at h
    refine hV.run 8 [1] (ws' := wX8 q4) (pc' := 55) (ls' := [(5, .int q1), (0, .ref 0), (1, .int a1), (2, .int a2), (3, .int a3), (4, .int a4)]) (st' := [.int a1, .ref 0]) (ps := [vp_in q1 80, a4 ≤ (q4 10 q1.toNatClampNeg)]) rfl ⟨g5, c6, trivial⟩ ?_
    obtain ⟨q7, hq7, h⟩ := am_bind h
    refine hV.cOv (as := [.int a1]) (rest := []) (st := [.int a1, .ref 0]) (ws2 := wX8 q7) (pc2 := 58) kX8_372 (c_X8_goOn l n q4 a1 q7 hq7) rfl rfl rfl rfl rfl rfl rfl rfl rfl ?_
    cases h
    exact hV.rv rfl rfl rfl hP
  · rw [if_neg c6] at h
    refine hV.run 10 [0] (ws' := wX8 q4) (pc' := 47) (ls' := [(5, .int q1), (0, .ref 0), (1, .int a1), (2, .int a2), (3, .int a3), (4, .int a4)]) (st' := [.int 1, .int 1, .int a1, .ref 0]) (ps := [vp_in q1 80, ¬ a4 ≤ (q4 10 q1.toNatClampNeg)]) rfl ⟨g5, c6, trivial⟩ ?_
    obtain ⟨q8, hq8, h⟩ := am_bind h
    refine hV.cOv (as := [.int a1, .int 1, .int 1]) (rest := []) (st := [.int 1, .int 1, .int a1, .ref 0]) (ws2 := wX8 q8) (pc2 := 50) kX8_350 (c_X8_put l q4 a1 1 1 q8 hq8) rfl rfl rfl rfl rfl rfl rfl rfl rfl ?_
    refine hV.run 1 [] (ws' := wX8 q8) (pc' := 58) (ls' := [(5, .int q1), (0, .ref 0), (1, .int a1), (2, .int a2), (3, .int a3), (4, .int a4)]) (st' := []) (ps := []) rfl trivial ?_
    cases h
    exact hV.rv rfl rfl rfl hP

def X8_hands_J63 (n : Nat) (σ : am_M) (l1 : Int32) (l2 : Int32) (l3 : Int32) (s0 : Int32) : Option (Bool × am_M) := if s0 = 0 then (some (false, σ)) else (X8_asked n σ l2 1).bind (fun q2 => if q2.1 = l3 then (X8_lying n q2.2 l1 l2 l3).bind (fun q4 => if q4 = (-1) then (some (true, q2.2)) else (some (false, q2.2))) else (some (false, q2.2)))
set_option maxRecDepth 100000 in
set_option maxHeartbeats 4000000 in
theorem p_X8_hands_J63 {l : Launch} {Post : Option Value → am_W → Prop} {V : am_VT} (hV : am_B l RX8 false 4 (am_cdT' tX8_hands) (am_rfL rfX8) (some .boolean) Post 36 V) (n : Nat) (res : (Bool × am_M)) (hP : Post (some (.int (b2i res.1))) (wX8 res.2)) (σ : am_M) (l1 : Int32) (l2 : Int32) (l3 : Int32) (s0 : Int32) (h : X8_hands_J63 n σ l1 l2 l3 s0 = some res) : V (wX8 σ) 63 [(0, .ref 0), (1, .int l1), (2, .int l2), (3, .int l3)] [.int s0] := by
  unfold X8_hands_J63 at h
  by_cases c1 : s0 = 0
  · rw [if_pos c1] at h
    refine hV.run 4 [1] (ws' := wX8 σ) (pc' := 96) (ls' := [(4, .int s0), (0, .ref 0), (1, .int l1), (2, .int l2), (3, .int l3)]) (st' := [.int 0]) (ps := [s0 = 0]) rfl ⟨c1, trivial⟩ ?_
    cases h
    exact hV.rz rfl rfl rfl (Or.inl rfl) hP
  · rw [if_neg c1] at h
    refine hV.run 6 [0] (ws' := wX8 σ) (pc' := 73) (ls' := [(4, .int s0), (0, .ref 0), (1, .int l1), (2, .int l2), (3, .int l3)]) (st' := [.int 1, .int l2, .ref 0]) (ps := [¬ s0 = 0]) rfl ⟨c1, trivial⟩ ?_
    obtain ⟨q2, hq2, h⟩ := am_bind h
    refine hV.cOi (as := [.int l2, .int 1]) (rest := []) (st := [.int 1, .int l2, .ref 0]) (ws2 := wX8 q2.2) (pc2 := 76) kX8_347 (c_X8_asked l n σ l2 1 q2 hq2) rfl rfl rfl rfl rfl rfl rfl rfl rfl ?_
    by_cases c3 : q2.1 = l3
    · rw [if_pos c3] at h
      refine hV.run 6 [0] (ws' := wX8 q2.2) (pc' := 84) (ls' := [(4, .int s0), (0, .ref 0), (1, .int l1), (2, .int l2), (3, .int l3)]) (st' := [.int l3, .int l2, .int l1, .ref 0]) (ps := [q2.1 = l3]) rfl ⟨c3, trivial⟩ ?_
      obtain ⟨q4, hq4, h⟩ := am_bind h
      refine hV.cOi (as := [.int l1, .int l2, .int l3]) (rest := []) (st := [.int l3, .int l2, .int l1, .ref 0]) (ws2 := wX8 q2.2) (pc2 := 87) kX8_379 (c_X8_lying l n q2.2 l1 l2 l3 q4 hq4) rfl rfl rfl rfl rfl rfl rfl rfl rfl ?_
      by_cases c5 : q4 = (-1)
      · rw [if_pos c5] at h
        refine hV.run 4 [0] (ws' := wX8 q2.2) (pc' := 96) (ls' := [(4, .int s0), (0, .ref 0), (1, .int l1), (2, .int l2), (3, .int l3)]) (st' := [.int 1]) (ps := [q4 = (-1)]) rfl ⟨c5, trivial⟩ ?_
        cases h
        exact hV.rz rfl rfl rfl (Or.inr rfl) hP
      · rw [if_neg c5] at h
        refine hV.run 3 [1] (ws' := wX8 q2.2) (pc' := 96) (ls' := [(4, .int s0), (0, .ref 0), (1, .int l1), (2, .int l2), (3, .int l3)]) (st' := [.int 0]) (ps := [¬ q4 = (-1)]) rfl ⟨c5, trivial⟩ ?_
        cases h
        exact hV.rz rfl rfl rfl (Or.inl rfl) hP
    · rw [if_neg c3] at h
      refine hV.run 3 [1] (ws' := wX8 q2.2) (pc' := 96) (ls' := [(4, .int s0), (0, .ref 0), (1, .int l1), (2, .int l2), (3, .int l3)]) (st' := [.int 0]) (ps := [¬ q2.1 = l3]) rfl ⟨c3, trivial⟩ ?_
      cases h
      exact hV.rz rfl rfl rfl (Or.inl rfl) hP
def X8_hands_J58 (n : Nat) (σ : am_M) (l1 : Int32) (l2 : Int32) (l3 : Int32) : Option (Bool × am_M) := X8_hands_J63 n σ l1 l2 l3 1
set_option maxRecDepth 100000 in
set_option maxHeartbeats 4000000 in
theorem p_X8_hands_J58 {l : Launch} {Post : Option Value → am_W → Prop} {V : am_VT} (hV : am_B l RX8 false 4 (am_cdT' tX8_hands) (am_rfL rfX8) (some .boolean) Post 36 V) (n : Nat) (res : (Bool × am_M)) (hP : Post (some (.int (b2i res.1))) (wX8 res.2)) (σ : am_M) (l1 : Int32) (l2 : Int32) (l3 : Int32) (h : X8_hands_J58 n σ l1 l2 l3 = some res) : V (wX8 σ) 58 [(0, .ref 0), (1, .int l1), (2, .int l2), (3, .int l3)] [] := by
  unfold X8_hands_J58 at h
  refine hV.run 2 [] (ws' := wX8 σ) (pc' := 63) (ls' := [(0, .ref 0), (1, .int l1), (2, .int l2), (3, .int l3)]) (st' := [.int 1]) (ps := []) rfl trivial ?_
  exact p_X8_hands_J63 hV n res hP σ l1 l2 l3 1 h
def X8_hands_J62 (n : Nat) (σ : am_M) (l1 : Int32) (l2 : Int32) (l3 : Int32) : Option (Bool × am_M) := X8_hands_J63 n σ l1 l2 l3 0
set_option maxRecDepth 100000 in
set_option maxHeartbeats 4000000 in
theorem p_X8_hands_J62 {l : Launch} {Post : Option Value → am_W → Prop} {V : am_VT} (hV : am_B l RX8 false 4 (am_cdT' tX8_hands) (am_rfL rfX8) (some .boolean) Post 36 V) (n : Nat) (res : (Bool × am_M)) (hP : Post (some (.int (b2i res.1))) (wX8 res.2)) (σ : am_M) (l1 : Int32) (l2 : Int32) (l3 : Int32) (h : X8_hands_J62 n σ l1 l2 l3 = some res) : V (wX8 σ) 62 [(0, .ref 0), (1, .int l1), (2, .int l2), (3, .int l3)] [] := by
  unfold X8_hands_J62 at h
  refine hV.run 1 [] (ws' := wX8 σ) (pc' := 63) (ls' := [(0, .ref 0), (1, .int l1), (2, .int l2), (3, .int l3)]) (st' := [.int 0]) (ps := []) rfl trivial ?_
  exact p_X8_hands_J63 hV n res hP σ l1 l2 l3 0 h
def X8_hands_J33 (n : Nat) (σ : am_M) (l1 : Int32) (l2 : Int32) (l3 : Int32) : Option (Bool × am_M) := (X8_isAt σ l2 4).bind (fun q1 => if q1 = true then (if (σ 0 35) = (-1) then (X8_hands_J58 n σ l1 l2 l3) else (if (σ 0 35) = l1 then (X8_hands_J58 n σ l1 l2 l3) else (X8_hands_J62 n σ l1 l2 l3))) else (X8_hands_J62 n σ l1 l2 l3))
set_option maxRecDepth 100000 in
set_option maxHeartbeats 4000000 in
theorem p_X8_hands_J33 {l : Launch} {Post : Option Value → am_W → Prop} {V : am_VT} (hV : am_B l RX8 false 4 (am_cdT' tX8_hands) (am_rfL rfX8) (some .boolean) Post 36 V) (n : Nat) (res : (Bool × am_M)) (hP : Post (some (.int (b2i res.1))) (wX8 res.2)) (σ : am_M) (l1 : Int32) (l2 : Int32) (l3 : Int32) (h : X8_hands_J33 n σ l1 l2 l3 = some res) : V (wX8 σ) 33 [(0, .ref 0), (1, .int l1), (2, .int l2), (3, .int l3)] [] := by
  unfold X8_hands_J33 at h
  refine hV.run 3 [] (ws' := wX8 σ) (pc' := 36) (ls' := [(0, .ref 0), (1, .int l1), (2, .int l2), (3, .int l3)]) (st' := [.int 4, .int l2, .ref 0]) (ps := []) rfl trivial ?_
  obtain ⟨q1, hq1, h⟩ := am_bind h
  refine hV.cOi (as := [.int l2, .int 4]) (rest := []) (st := [.int 4, .int l2, .ref 0]) (ws2 := wX8 σ) (pc2 := 39) kX8_375 (c_X8_isAt l σ l2 4 q1 hq1) rfl rfl rfl rfl rfl rfl rfl rfl rfl ?_
  by_cases c2 : q1 = true
  · rw [if_pos c2] at h
    by_cases c3 : (σ 0 35) = (-1)
    · rw [if_pos c3] at h
      refine hV.run 5 [0, 1] (ws' := wX8 σ) (pc' := 58) (ls' := [(0, .ref 0), (1, .int l1), (2, .int l2), (3, .int l3)]) (st' := []) (ps := [¬ (b2i q1) = 0, (σ 0 35) = (-1)]) rfl ⟨(b2i_t c2), c3, trivial⟩ ?_
      exact p_X8_hands_J58 hV n res hP σ l1 l2 l3 h
    · rw [if_neg c3] at h
      by_cases c4 : (σ 0 35) = l1
      · rw [if_pos c4] at h
        refine hV.run 9 [0, 0, 0] (ws' := wX8 σ) (pc' := 58) (ls' := [(0, .ref 0), (1, .int l1), (2, .int l2), (3, .int l3)]) (st' := []) (ps := [¬ (b2i q1) = 0, ¬ (σ 0 35) = (-1), (σ 0 35) = l1]) rfl ⟨(b2i_t c2), c3, c4, trivial⟩ ?_
        exact p_X8_hands_J58 hV n res hP σ l1 l2 l3 h
      · rw [if_neg c4] at h
        refine hV.run 9 [0, 0, 1] (ws' := wX8 σ) (pc' := 62) (ls' := [(0, .ref 0), (1, .int l1), (2, .int l2), (3, .int l3)]) (st' := []) (ps := [¬ (b2i q1) = 0, ¬ (σ 0 35) = (-1), ¬ (σ 0 35) = l1]) rfl ⟨(b2i_t c2), c3, c4, trivial⟩ ?_
        exact p_X8_hands_J62 hV n res hP σ l1 l2 l3 h
  · rw [if_neg c2] at h
    refine hV.run 1 [1] (ws' := wX8 σ) (pc' := 62) (ls' := [(0, .ref 0), (1, .int l1), (2, .int l2), (3, .int l3)]) (st' := []) (ps := [(b2i q1) = 0]) rfl ⟨(b2i_f c2), trivial⟩ ?_
    exact p_X8_hands_J62 hV n res hP σ l1 l2 l3 h
def X8_hands (n : Nat) (σ : am_M) (a1 : Int32) : Option (Bool × am_M) := (X8_asked n σ a1 0).bind (fun q1 => (X8_asked n q1.2 a1 1).bind (fun q2 => (X8_isAt q2.2 q1.1 3).bind (fun q3 => if q3 = true then (X8_asked n q2.2 q1.1 0).bind (fun q5 => if q5.1 = a1 then (X8_hands_J58 n q5.2 a1 q1.1 q2.1) else (X8_hands_J33 n q5.2 a1 q1.1 q2.1)) else (X8_hands_J33 n q2.2 a1 q1.1 q2.1))))
set_option maxRecDepth 100000 in
set_option maxHeartbeats 4000000 in
theorem c_X8_hands (l : Launch) (n : Nat) (σ : am_M) (a1 : Int32) (res : (Bool × am_M)) (h : X8_hands n σ a1 = some res) : am_Con l yX8_hands cX8_hands 5 (some .boolean) 4 [.ref 0, .int a1] (wX8 σ) (fun (r : Option Value) (w : am_W) => r = (some (.int (b2i res.1))) ∧ w = (wX8 res.2)) := by
  refine am_metn (n0 := 36) (own := RX8) (cd := am_cdT' tX8_hands) (rf := am_rfL rfX8) (ini := false) rfl (by decide +kernel) rfl (by decide) dX8_hands rfX8_ok (Nat.le_of_ble_eq_true rfl) ?_
  intro V hV
  have hP : (fun (r : Option Value) (w : am_W) => r = (some (.int (b2i res.1))) ∧ w = (wX8 res.2)) (some (.int (b2i res.1))) (wX8 res.2) := ⟨rfl, rfl⟩
  show V (wX8 σ) 0 [(0, .ref 0), (1, .int a1)] []
  unfold X8_hands at h
  refine hV.run 3 [] (ws' := wX8 σ) (pc' := 3) (ls' := [(0, .ref 0), (1, .int a1)]) (st' := [.int 0, .int a1, .ref 0]) (ps := []) rfl trivial ?_
  obtain ⟨q1, hq1, h⟩ := am_bind h
  refine hV.cOi (as := [.int a1, .int 0]) (rest := []) (st := [.int 0, .int a1, .ref 0]) (ws2 := wX8 q1.2) (pc2 := 6) kX8_347 (c_X8_asked l n σ a1 0 q1 hq1) rfl rfl rfl rfl rfl rfl rfl rfl rfl ?_
  refine hV.run 4 [] (ws' := wX8 q1.2) (pc' := 10) (ls' := [(2, .int q1.1), (0, .ref 0), (1, .int a1)]) (st' := [.int 1, .int a1, .ref 0]) (ps := []) rfl trivial ?_
  obtain ⟨q2, hq2, h⟩ := am_bind h
  refine hV.cOi (as := [.int a1, .int 1]) (rest := []) (st := [.int 1, .int a1, .ref 0]) (ws2 := wX8 q2.2) (pc2 := 13) kX8_347 (c_X8_asked l n q1.2 a1 1 q2 hq2) rfl rfl rfl rfl rfl rfl rfl rfl rfl ?_
  refine hV.run 4 [] (ws' := wX8 q2.2) (pc' := 17) (ls' := [(3, .int q2.1), (2, .int q1.1), (0, .ref 0), (1, .int a1)]) (st' := [.int 3, .int q1.1, .ref 0]) (ps := []) rfl trivial ?_
  obtain ⟨q3, hq3, h⟩ := am_bind h
  refine hV.cOi (as := [.int q1.1, .int 3]) (rest := []) (st := [.int 3, .int q1.1, .ref 0]) (ws2 := wX8 q2.2) (pc2 := 20) kX8_375 (c_X8_isAt l q2.2 q1.1 3 q3 hq3) rfl rfl rfl rfl rfl rfl rfl rfl rfl ?_
  by_cases c4 : q3 = true
  · rw [if_pos c4] at h
    refine hV.run 4 [0] (ws' := wX8 q2.2) (pc' := 26) (ls' := [(3, .int q2.1), (2, .int q1.1), (0, .ref 0), (1, .int a1)]) (st' := [.int 0, .int q1.1, .ref 0]) (ps := [¬ (b2i q3) = 0]) rfl ⟨(b2i_t c4), trivial⟩ ?_
    obtain ⟨q5, hq5, h⟩ := am_bind h
    refine hV.cOi (as := [.int q1.1, .int 0]) (rest := []) (st := [.int 0, .int q1.1, .ref 0]) (ws2 := wX8 q5.2) (pc2 := 29) kX8_347 (c_X8_asked l n q2.2 q1.1 0 q5 hq5) rfl rfl rfl rfl rfl rfl rfl rfl rfl ?_
    by_cases c6 : q5.1 = a1
    · rw [if_pos c6] at h
      refine hV.run 2 [1] (ws' := wX8 q5.2) (pc' := 58) (ls' := [(3, .int q2.1), (2, .int q1.1), (0, .ref 0), (1, .int a1)]) (st' := []) (ps := [q5.1 = a1]) rfl ⟨c6, trivial⟩ ?_
      refine hV.pick [2, 3, 1, 0] (ls' := [(0, .ref 0), (1, .int a1), (2, .int q1.1), (3, .int q2.1)]) rfl ?_
      exact p_X8_hands_J58 hV n res hP q5.2 a1 q1.1 q2.1 h
    · rw [if_neg c6] at h
      refine hV.run 2 [0] (ws' := wX8 q5.2) (pc' := 33) (ls' := [(3, .int q2.1), (2, .int q1.1), (0, .ref 0), (1, .int a1)]) (st' := []) (ps := [¬ q5.1 = a1]) rfl ⟨c6, trivial⟩ ?_
      refine hV.pick [2, 3, 1, 0] (ls' := [(0, .ref 0), (1, .int a1), (2, .int q1.1), (3, .int q2.1)]) rfl ?_
      exact p_X8_hands_J33 hV n res hP q5.2 a1 q1.1 q2.1 h
  · rw [if_neg c4] at h
    refine hV.run 1 [1] (ws' := wX8 q2.2) (pc' := 33) (ls' := [(3, .int q2.1), (2, .int q1.1), (0, .ref 0), (1, .int a1)]) (st' := []) (ps := [(b2i q3) = 0]) rfl ⟨(b2i_f c4), trivial⟩ ?_
    refine hV.pick [2, 3, 1, 0] (ls' := [(0, .ref 0), (1, .int a1), (2, .int q1.1), (3, .int q2.1)]) rfl ?_
    exact p_X8_hands_J33 hV n res hP q2.2 a1 q1.1 q2.1 h

def X8_areAll_B2 (n : Nat) (σ : am_M) (kont2 : Int32 → Int32 → Option Bool) (l1 : Int32) (l2 : Int32) : Option Bool := if (σ 0 3) ≤ l2 then (some true) else (X8_isAt σ l2 l1).bind (fun q2 => if q2 = true then (kont2 l1 (l2 + 1)) else (some false))
def X8_areAll_L2 (n : Nat) (σ : am_M) : Nat → Int32 → Int32 → Option Bool
 | 0 => fun _ _ => none
 | k + 1 => fun l1 l2 => X8_areAll_B2 n σ (X8_areAll_L2 n σ k) l1 l2
set_option maxRecDepth 100000 in
set_option maxHeartbeats 4000000 in
theorem p_X8_areAll_B2 {l : Launch} {Post : Option Value → am_W → Prop} {V : am_VT} (hV : am_B l RX8 false 3 (am_cdT' tX8_areAll) (am_rfL rfX8) (some .boolean) Post 36 V) (n : Nat) (σ : am_M) (res : Bool) (hP : Post (some (.int (b2i res))) (wX8 σ)) (kont2 : Int32 → Int32 → Option Bool) (hk2 : ∀ (l1 : Int32) (l2 : Int32), kont2 l1 l2 = some res → V (wX8 σ) 2 [(0, .ref 0), (1, .int l1), (2, .int l2)] []) (l1 : Int32) (l2 : Int32) (h : X8_areAll_B2 n σ kont2 l1 l2 = some res) : V (wX8 σ) 2 [(0, .ref 0), (1, .int l1), (2, .int l2)] [] := by
  unfold X8_areAll_B2 at h
  by_cases c1 : (σ 0 3) ≤ l2
  · rw [if_pos c1] at h
    refine hV.run 5 [1] (ws' := wX8 σ) (pc' := 28) (ls' := [(0, .ref 0), (1, .int l1), (2, .int l2)]) (st' := [.int 1]) (ps := [(σ 0 3) ≤ l2]) rfl ⟨c1, trivial⟩ ?_
    cases h
    exact hV.rz rfl rfl rfl (Or.inr rfl) hP
  · rw [if_neg c1] at h
    refine hV.run 7 [0] (ws' := wX8 σ) (pc' := 13) (ls' := [(0, .ref 0), (1, .int l1), (2, .int l2)]) (st' := [.int l1, .int l2, .ref 0]) (ps := [¬ (σ 0 3) ≤ l2]) rfl ⟨c1, trivial⟩ ?_
    obtain ⟨q2, hq2, h⟩ := am_bind h
    refine hV.cOi (as := [.int l2, .int l1]) (rest := []) (st := [.int l1, .int l2, .ref 0]) (ws2 := wX8 σ) (pc2 := 16) kX8_375 (c_X8_isAt l σ l2 l1 q2 hq2) rfl rfl rfl rfl rfl rfl rfl rfl rfl ?_
    by_cases c3 : q2 = true
    · rw [if_pos c3] at h
      refine hV.run 3 [1] (ws' := wX8 σ) (pc' := 2) (ls' := [(2, .int (l2 + 1)), (0, .ref 0), (1, .int l1)]) (st' := []) (ps := [¬ (b2i q2) = 0]) rfl ⟨(b2i_t c3), trivial⟩ ?_
      refine hV.pick [1, 2, 0] (ls' := [(0, .ref 0), (1, .int l1), (2, .int (l2 + 1))]) rfl ?_
      exact hk2 l1 (l2 + 1) h
    · rw [if_neg c3] at h
      refine hV.run 2 [0] (ws' := wX8 σ) (pc' := 20) (ls' := [(0, .ref 0), (1, .int l1), (2, .int l2)]) (st' := [.int 0]) (ps := [(b2i q2) = 0]) rfl ⟨(b2i_f c3), trivial⟩ ?_
      cases h
      exact hV.rz rfl rfl rfl (Or.inl rfl) hP
theorem p_X8_areAll_L2 {l : Launch} {Post : Option Value → am_W → Prop} {V : am_VT} (hV : am_B l RX8 false 3 (am_cdT' tX8_areAll) (am_rfL rfX8) (some .boolean) Post 36 V) (n : Nat) (σ : am_M) (res : Bool) (hP : Post (some (.int (b2i res))) (wX8 σ)) : ∀ (k : Nat) (l1 : Int32) (l2 : Int32) (h : X8_areAll_L2 n σ k l1 l2 = some res), V (wX8 σ) 2 [(0, .ref 0), (1, .int l1), (2, .int l2)] [] := by
  intro k
  induction k with
  | zero => intro l1 l2 h; cases h
  | succ k ih => intro l1 l2 h; exact p_X8_areAll_B2 hV n σ res hP _ ih l1 l2 h
def X8_areAll (n : Nat) (σ : am_M) (a1 : Int32) : Option Bool := X8_areAll_L2 n σ n a1 0
set_option maxRecDepth 100000 in
set_option maxHeartbeats 4000000 in
theorem c_X8_areAll (l : Launch) (n : Nat) (σ : am_M) (a1 : Int32) (res : Bool) (h : X8_areAll n σ a1 = some res) : am_Con l yX8_areAll cX8_areAll 3 (some .boolean) 3 [.ref 0, .int a1] (wX8 σ) (fun (r : Option Value) (w : am_W) => r = (some (.int (b2i res))) ∧ w = (wX8 σ)) := by
  refine am_metn (n0 := 36) (own := RX8) (cd := am_cdT' tX8_areAll) (rf := am_rfL rfX8) (ini := false) rfl (by decide +kernel) rfl (by decide) dX8_areAll rfX8_ok (Nat.le_of_ble_eq_true rfl) ?_
  intro V hV
  have hP : (fun (r : Option Value) (w : am_W) => r = (some (.int (b2i res))) ∧ w = (wX8 σ)) (some (.int (b2i res))) (wX8 σ) := ⟨rfl, rfl⟩
  show V (wX8 σ) 0 [(0, .ref 0), (1, .int a1)] []
  unfold X8_areAll at h
  refine hV.run 2 [] (ws' := wX8 σ) (pc' := 2) (ls' := [(2, .int 0), (0, .ref 0), (1, .int a1)]) (st' := []) (ps := []) rfl trivial ?_
  refine hV.pick [1, 2, 0] (ls' := [(0, .ref 0), (1, .int a1), (2, .int 0)]) rfl ?_
  exact p_X8_areAll_L2 hV n σ res hP n a1 0 h

def X8_can_J164 (n : Nat) (σ : am_M) (l1 : Int32) (l2 : Int32) : Option (Bool × am_M) := (X8_asked n σ l1 1).bind (fun q1 => (X8_lying n q1.2 l2 l1 q1.1).bind (fun q2 => if q2 = (-1) then (some (false, q1.2)) else (some (true, q1.2))))
set_option maxRecDepth 100000 in
set_option maxHeartbeats 4000000 in
theorem p_X8_can_J164 {l : Launch} {Post : Option Value → am_W → Prop} {V : am_VT} (hV : am_B l RX8 false 5 (am_cdT' tX8_can) (am_rfL rfX8) (some .boolean) Post 36 V) (n : Nat) (res : (Bool × am_M)) (hP : Post (some (.int (b2i res.1))) (wX8 res.2)) (σ : am_M) (l1 : Int32) (l2 : Int32) (h : X8_can_J164 n σ l1 l2 = some res) : V (wX8 σ) 164 [(0, .ref 0), (1, .int l1), (2, .int l2)] [] := by
  unfold X8_can_J164 at h
  refine hV.run 6 [] (ws' := wX8 σ) (pc' := 170) (ls' := [(0, .ref 0), (1, .int l1), (2, .int l2)]) (st' := [.int 1, .int l1, .ref 0, .int l1, .int l2, .ref 0]) (ps := []) rfl trivial ?_
  obtain ⟨q1, hq1, h⟩ := am_bind h
  refine hV.cOi (as := [.int l1, .int 1]) (rest := [.int l1, .int l2, .ref 0]) (st := [.int 1, .int l1, .ref 0, .int l1, .int l2, .ref 0]) (ws2 := wX8 q1.2) (pc2 := 173) kX8_347 (c_X8_asked l n σ l1 1 q1 hq1) rfl rfl rfl rfl rfl rfl rfl rfl rfl ?_
  obtain ⟨q2, hq2, h⟩ := am_bind h
  refine hV.cOi (as := [.int l2, .int l1, .int q1.1]) (rest := []) (st := [.int q1.1, .int l1, .int l2, .ref 0]) (ws2 := wX8 q1.2) (pc2 := 176) kX8_379 (c_X8_lying l n q1.2 l2 l1 q1.1 q2 hq2) rfl rfl rfl rfl rfl rfl rfl rfl rfl ?_
  by_cases c3 : q2 = (-1)
  · rw [if_pos c3] at h
    refine hV.run 3 [1] (ws' := wX8 q1.2) (pc' := 185) (ls' := [(0, .ref 0), (1, .int l1), (2, .int l2)]) (st' := [.int 0]) (ps := [q2 = (-1)]) rfl ⟨c3, trivial⟩ ?_
    cases h
    exact hV.rz rfl rfl rfl (Or.inl rfl) hP
  · rw [if_neg c3] at h
    refine hV.run 4 [0] (ws' := wX8 q1.2) (pc' := 185) (ls' := [(0, .ref 0), (1, .int l1), (2, .int l2)]) (st' := [.int 1]) (ps := [¬ q2 = (-1)]) rfl ⟨c3, trivial⟩ ?_
    cases h
    exact hV.rz rfl rfl rfl (Or.inr rfl) hP
def X8_can (n : Nat) (σ : am_M) (a1 : Int32) (a2 : Int32) : Option (Bool × am_M) := (X8_own σ a1 0).bind (fun q1 => if q1 = (-1) then (some (false, σ)) else (X8_own σ a1 1).bind (fun q3 => if q3 = 1 then (some (false, σ)) else (if q1 < 0 ∨ 80 ≤ q1.toNatClampNeg then none else (if (σ 6 q1.toNatClampNeg) = 0 then (X8_asked n σ a1 0).bind (fun q7 => (X8_sent n q7.2 a1 q7.1).bind (fun q8 => if q8 < (q7.2 0 4) then (some (true, q7.2)) else (X8_hands n q7.2 a1).bind (fun q10 => if q10.1 = true then (some (true, q10.2)) else (some (false, q10.2))))) else (if (σ 6 q1.toNatClampNeg) = 1 then (X8_hands n σ a1).bind (fun q13 => some (q13.1, q13.2)) else (if (σ 6 q1.toNatClampNeg) = 2 then (some (true, σ)) else (if (σ 6 q1.toNatClampNeg) = 3 then (X8_asked n σ a1 0).bind (fun q16 => (X8_asked n q16.2 a1 1).bind (fun q17 => (X8_lying n q17.2 q16.1 a1 q17.1).bind (fun q18 => if q18 = (-1) then (some (false, q17.2)) else (some (true, q17.2))))) else (if (σ 6 q1.toNatClampNeg) = 4 then (if a2 = a1 then (some (false, σ)) else (if (σ 0 35) = (-1) then (X8_can_J164 n σ a1 a2) else (if (σ 0 35) = a2 then (X8_can_J164 n σ a1 a2) else (some (false, σ))))) else (if (σ 6 q1.toNatClampNeg) = 5 then (X8_begun n σ a1).bind (fun q25 => if q25 = 0 then (some (true, σ)) else (some (false, σ))) else (if (σ 6 q1.toNatClampNeg) = 6 then (if a1 = 0 then (if q1 < 0 ∨ 80 ≤ q1.toNatClampNeg then none else (X8_areAll n σ (σ 6 q1.toNatClampNeg)).bind (fun q30 => if q30 = true then (some (true, σ)) else (some (false, σ)))) else (some (false, σ))) else (if (σ 6 q1.toNatClampNeg) = 7 then (if a1 = 0 then (if q1 < 0 ∨ 80 ≤ q1.toNatClampNeg then none else (X8_areAll n σ (σ 6 q1.toNatClampNeg)).bind (fun q35 => if q35 = true then (some (true, σ)) else (some (false, σ)))) else (some (false, σ))) else (some (false, σ)))))))))))))
set_option maxRecDepth 100000 in
set_option maxHeartbeats 4000000 in
theorem c_X8_can (l : Launch) (n : Nat) (σ : am_M) (a1 : Int32) (a2 : Int32) (res : (Bool × am_M)) (h : X8_can n σ a1 a2 = some res) : am_Con l yX8_can cX8_can 4 (some .boolean) 5 [.ref 0, .int a1, .int a2] (wX8 σ) (fun (r : Option Value) (w : am_W) => r = (some (.int (b2i res.1))) ∧ w = (wX8 res.2)) := by
  refine am_metn (n0 := 36) (own := RX8) (cd := am_cdT' tX8_can) (rf := am_rfL rfX8) (ini := false) rfl (by decide +kernel) rfl (by decide) dX8_can rfX8_ok (Nat.le_of_ble_eq_true rfl) ?_
  intro V hV
  have hP : (fun (r : Option Value) (w : am_W) => r = (some (.int (b2i res.1))) ∧ w = (wX8 res.2)) (some (.int (b2i res.1))) (wX8 res.2) := ⟨rfl, rfl⟩
  show V (wX8 σ) 0 [(0, .ref 0), (1, .int a1), (2, .int a2)] []
  unfold X8_can at h
  refine hV.run 3 [] (ws' := wX8 σ) (pc' := 3) (ls' := [(0, .ref 0), (1, .int a1), (2, .int a2)]) (st' := [.int 0, .int a1, .ref 0]) (ps := []) rfl trivial ?_
  obtain ⟨q1, hq1, h⟩ := am_bind h
  refine hV.cOi (as := [.int a1, .int 0]) (rest := []) (st := [.int 0, .int a1, .ref 0]) (ws2 := wX8 σ) (pc2 := 6) kX8_337 (c_X8_own l σ a1 0 q1 hq1) rfl rfl rfl rfl rfl rfl rfl rfl rfl ?_
  by_cases c2 : q1 = (-1)
  · rw [if_pos c2] at h
    refine hV.run 5 [1] (ws' := wX8 σ) (pc' := 23) (ls' := [(3, .int q1), (0, .ref 0), (1, .int a1), (2, .int a2)]) (st' := [.int 0]) (ps := [q1 = (-1)]) rfl ⟨c2, trivial⟩ ?_
    cases h
    exact hV.rz rfl rfl rfl (Or.inl rfl) hP
  · rw [if_neg c2] at h
    refine hV.run 7 [0] (ws' := wX8 σ) (pc' := 15) (ls' := [(3, .int q1), (0, .ref 0), (1, .int a1), (2, .int a2)]) (st' := [.int 1, .int a1, .ref 0]) (ps := [¬ q1 = (-1)]) rfl ⟨c2, trivial⟩ ?_
    obtain ⟨q3, hq3, h⟩ := am_bind h
    refine hV.cOi (as := [.int a1, .int 1]) (rest := []) (st := [.int 1, .int a1, .ref 0]) (ws2 := wX8 σ) (pc2 := 18) kX8_337 (c_X8_own l σ a1 1 q3 hq3) rfl rfl rfl rfl rfl rfl rfl rfl rfl ?_
    by_cases c4 : q3 = 1
    · rw [if_pos c4] at h
      refine hV.run 3 [0] (ws' := wX8 σ) (pc' := 23) (ls' := [(3, .int q1), (0, .ref 0), (1, .int a1), (2, .int a2)]) (st' := [.int 0]) (ps := [q3 = 1]) rfl ⟨c4, trivial⟩ ?_
      cases h
      exact hV.rz rfl rfl rfl (Or.inl rfl) hP
    · rw [if_neg c4] at h
      by_cases g5 : q1 < 0 ∨ 80 ≤ q1.toNatClampNeg
      · rw [if_pos g5] at h; cases h
      rw [if_neg g5] at h
      by_cases c6 : (σ 6 q1.toNatClampNeg) = 0
      · rw [if_pos c6] at h
        refine hV.run 12 [1, 1] (ws' := wX8 σ) (pc' := 83) (ls' := [(3, .int q1), (0, .ref 0), (1, .int a1), (2, .int a2)]) (st' := [.int 0, .int a1, .ref 0, .int a1, .ref 0]) (ps := [¬ q3 = 1, vp_in q1 80, (σ 6 q1.toNatClampNeg).toInt = 0 + ((0 : Nat) : Int), 0 < 8, ¬ 7 < (σ 6 q1.toNatClampNeg).toInt]) rfl ⟨c4, g5, (by rw [c6]; decide), (by decide), (by rw [c6]; decide), trivial⟩ ?_
        obtain ⟨q7, hq7, h⟩ := am_bind h
        refine hV.cOi (as := [.int a1, .int 0]) (rest := [.int a1, .ref 0]) (st := [.int 0, .int a1, .ref 0, .int a1, .ref 0]) (ws2 := wX8 q7.2) (pc2 := 86) kX8_347 (c_X8_asked l n σ a1 0 q7 hq7) rfl rfl rfl rfl rfl rfl rfl rfl rfl ?_
        obtain ⟨q8, hq8, h⟩ := am_bind h
        refine hV.cOi (as := [.int a1, .int q7.1]) (rest := []) (st := [.int q7.1, .int a1, .ref 0]) (ws2 := wX8 q7.2) (pc2 := 89) kX8_382 (c_X8_sent l n q7.2 a1 q7.1 q8 hq8) rfl rfl rfl rfl rfl rfl rfl rfl rfl ?_
        by_cases c9 : q8 < (q7.2 0 4)
        · rw [if_pos c9] at h
          refine hV.run 5 [1] (ws' := wX8 q7.2) (pc' := 109) (ls' := [(3, .int q1), (0, .ref 0), (1, .int a1), (2, .int a2)]) (st' := [.int 1]) (ps := [q8 < (q7.2 0 4)]) rfl ⟨c9, trivial⟩ ?_
          cases h
          exact hV.rz rfl rfl rfl (Or.inr rfl) hP
        · rw [if_neg c9] at h
          refine hV.run 5 [0] (ws' := wX8 q7.2) (pc' := 98) (ls' := [(3, .int q1), (0, .ref 0), (1, .int a1), (2, .int a2)]) (st' := [.int a1, .ref 0]) (ps := [¬ q8 < (q7.2 0 4)]) rfl ⟨c9, trivial⟩ ?_
          obtain ⟨q10, hq10, h⟩ := am_bind h
          refine hV.cOi (as := [.int a1]) (rest := []) (st := [.int a1, .ref 0]) (ws2 := wX8 q10.2) (pc2 := 101) kX8_385 (c_X8_hands l n q7.2 a1 q10 hq10) rfl rfl rfl rfl rfl rfl rfl rfl rfl ?_
          by_cases c11 : q10.1 = true
          · rw [if_pos c11] at h
            refine hV.run 3 [0] (ws' := wX8 q10.2) (pc' := 109) (ls' := [(3, .int q1), (0, .ref 0), (1, .int a1), (2, .int a2)]) (st' := [.int 1]) (ps := [¬ (b2i q10.1) = 0]) rfl ⟨(b2i_t c11), trivial⟩ ?_
            cases h
            exact hV.rz rfl rfl rfl (Or.inr rfl) hP
          · rw [if_neg c11] at h
            refine hV.run 2 [1] (ws' := wX8 q10.2) (pc' := 109) (ls' := [(3, .int q1), (0, .ref 0), (1, .int a1), (2, .int a2)]) (st' := [.int 0]) (ps := [(b2i q10.1) = 0]) rfl ⟨(b2i_f c11), trivial⟩ ?_
            cases h
            exact hV.rz rfl rfl rfl (Or.inl rfl) hP
      · rw [if_neg c6] at h
        by_cases c12 : (σ 6 q1.toNatClampNeg) = 1
        · rw [if_pos c12] at h
          refine hV.run 9 [1, 2] (ws' := wX8 σ) (pc' := 112) (ls' := [(3, .int q1), (0, .ref 0), (1, .int a1), (2, .int a2)]) (st' := [.int a1, .ref 0]) (ps := [¬ q3 = 1, vp_in q1 80, (σ 6 q1.toNatClampNeg).toInt = 0 + ((1 : Nat) : Int), 1 < 8, ¬ 7 < (σ 6 q1.toNatClampNeg).toInt]) rfl ⟨c4, g5, (by rw [c12]; decide), (by decide), (by rw [c12]; decide), trivial⟩ ?_
          obtain ⟨q13, hq13, h⟩ := am_bind h
          refine hV.cOi (as := [.int a1]) (rest := []) (st := [.int a1, .ref 0]) (ws2 := wX8 q13.2) (pc2 := 115) kX8_385 (c_X8_hands l n σ a1 q13 hq13) rfl rfl rfl rfl rfl rfl rfl rfl rfl ?_
          cases h
          exact hV.rz rfl rfl rfl (b2i_01 _) hP
        · rw [if_neg c12] at h
          by_cases c14 : (σ 6 q1.toNatClampNeg) = 2
          · rw [if_pos c14] at h
            refine hV.run 8 [1, 3] (ws' := wX8 σ) (pc' := 77) (ls' := [(3, .int q1), (0, .ref 0), (1, .int a1), (2, .int a2)]) (st' := [.int 1]) (ps := [¬ q3 = 1, vp_in q1 80, (σ 6 q1.toNatClampNeg).toInt = 0 + ((2 : Nat) : Int), 2 < 8, ¬ 7 < (σ 6 q1.toNatClampNeg).toInt]) rfl ⟨c4, g5, (by rw [c14]; decide), (by decide), (by rw [c14]; decide), trivial⟩ ?_
            cases h
            exact hV.rz rfl rfl rfl (Or.inr rfl) hP
          · rw [if_neg c14] at h
            by_cases c15 : (σ 6 q1.toNatClampNeg) = 3
            · rw [if_pos c15] at h
              refine hV.run 11 [1, 4] (ws' := wX8 σ) (pc' := 120) (ls' := [(3, .int q1), (0, .ref 0), (1, .int a1), (2, .int a2)]) (st' := [.int 0, .int a1, .ref 0, .ref 0]) (ps := [¬ q3 = 1, vp_in q1 80, (σ 6 q1.toNatClampNeg).toInt = 0 + ((3 : Nat) : Int), 3 < 8, ¬ 7 < (σ 6 q1.toNatClampNeg).toInt]) rfl ⟨c4, g5, (by rw [c15]; decide), (by decide), (by rw [c15]; decide), trivial⟩ ?_
              obtain ⟨q16, hq16, h⟩ := am_bind h
              refine hV.cOi (as := [.int a1, .int 0]) (rest := [.ref 0]) (st := [.int 0, .int a1, .ref 0, .ref 0]) (ws2 := wX8 q16.2) (pc2 := 123) kX8_347 (c_X8_asked l n σ a1 0 q16 hq16) rfl rfl rfl rfl rfl rfl rfl rfl rfl ?_
              refine hV.run 4 [] (ws' := wX8 q16.2) (pc' := 127) (ls' := [(3, .int q1), (0, .ref 0), (1, .int a1), (2, .int a2)]) (st' := [.int 1, .int a1, .ref 0, .int a1, .int q16.1, .ref 0]) (ps := []) rfl trivial ?_
              obtain ⟨q17, hq17, h⟩ := am_bind h
              refine hV.cOi (as := [.int a1, .int 1]) (rest := [.int a1, .int q16.1, .ref 0]) (st := [.int 1, .int a1, .ref 0, .int a1, .int q16.1, .ref 0]) (ws2 := wX8 q17.2) (pc2 := 130) kX8_347 (c_X8_asked l n q16.2 a1 1 q17 hq17) rfl rfl rfl rfl rfl rfl rfl rfl rfl ?_
              obtain ⟨q18, hq18, h⟩ := am_bind h
              refine hV.cOi (as := [.int q16.1, .int a1, .int q17.1]) (rest := []) (st := [.int q17.1, .int a1, .int q16.1, .ref 0]) (ws2 := wX8 q17.2) (pc2 := 133) kX8_379 (c_X8_lying l n q17.2 q16.1 a1 q17.1 q18 hq18) rfl rfl rfl rfl rfl rfl rfl rfl rfl ?_
              by_cases c19 : q18 = (-1)
              · rw [if_pos c19] at h
                refine hV.run 3 [1] (ws' := wX8 q17.2) (pc' := 142) (ls' := [(3, .int q1), (0, .ref 0), (1, .int a1), (2, .int a2)]) (st' := [.int 0]) (ps := [q18 = (-1)]) rfl ⟨c19, trivial⟩ ?_
                cases h
                exact hV.rz rfl rfl rfl (Or.inl rfl) hP
              · rw [if_neg c19] at h
                refine hV.run 4 [0] (ws' := wX8 q17.2) (pc' := 142) (ls' := [(3, .int q1), (0, .ref 0), (1, .int a1), (2, .int a2)]) (st' := [.int 1]) (ps := [¬ q18 = (-1)]) rfl ⟨c19, trivial⟩ ?_
                cases h
                exact hV.rz rfl rfl rfl (Or.inr rfl) hP
            · rw [if_neg c15] at h
              by_cases c20 : (σ 6 q1.toNatClampNeg) = 4
              · rw [if_pos c20] at h
                by_cases c21 : a2 = a1
                · rw [if_pos c21] at h
                  refine hV.run 11 [1, 5, 1] (ws' := wX8 σ) (pc' := 185) (ls' := [(3, .int q1), (0, .ref 0), (1, .int a1), (2, .int a2)]) (st' := [.int 0]) (ps := [¬ q3 = 1, vp_in q1 80, (σ 6 q1.toNatClampNeg).toInt = 0 + ((4 : Nat) : Int), 4 < 8, ¬ 7 < (σ 6 q1.toNatClampNeg).toInt, a2 = a1]) rfl ⟨c4, g5, (by rw [c20]; decide), (by decide), (by rw [c20]; decide), c21, trivial⟩ ?_
                  cases h
                  exact hV.rz rfl rfl rfl (Or.inl rfl) hP
                · rw [if_neg c21] at h
                  by_cases c22 : (σ 0 35) = (-1)
                  · rw [if_pos c22] at h
                    refine hV.run 14 [1, 5, 0, 1] (ws' := wX8 σ) (pc' := 164) (ls' := [(3, .int q1), (0, .ref 0), (1, .int a1), (2, .int a2)]) (st' := []) (ps := [¬ q3 = 1, vp_in q1 80, (σ 6 q1.toNatClampNeg).toInt = 0 + ((4 : Nat) : Int), 4 < 8, ¬ 7 < (σ 6 q1.toNatClampNeg).toInt, ¬ a2 = a1, (σ 0 35) = (-1)]) rfl ⟨c4, g5, (by rw [c20]; decide), (by decide), (by rw [c20]; decide), c21, c22, trivial⟩ ?_
                    refine hV.pick [1, 2, 3] (ls' := [(0, .ref 0), (1, .int a1), (2, .int a2)]) rfl ?_
                    exact p_X8_can_J164 hV n res hP σ a1 a2 h
                  · rw [if_neg c22] at h
                    by_cases c23 : (σ 0 35) = a2
                    · rw [if_pos c23] at h
                      refine hV.run 18 [1, 5, 0, 0, 0] (ws' := wX8 σ) (pc' := 164) (ls' := [(3, .int q1), (0, .ref 0), (1, .int a1), (2, .int a2)]) (st' := []) (ps := [¬ q3 = 1, vp_in q1 80, (σ 6 q1.toNatClampNeg).toInt = 0 + ((4 : Nat) : Int), 4 < 8, ¬ 7 < (σ 6 q1.toNatClampNeg).toInt, ¬ a2 = a1, ¬ (σ 0 35) = (-1), (σ 0 35) = a2]) rfl ⟨c4, g5, (by rw [c20]; decide), (by decide), (by rw [c20]; decide), c21, c22, c23, trivial⟩ ?_
                      refine hV.pick [1, 2, 3] (ls' := [(0, .ref 0), (1, .int a1), (2, .int a2)]) rfl ?_
                      exact p_X8_can_J164 hV n res hP σ a1 a2 h
                    · rw [if_neg c23] at h
                      refine hV.run 19 [1, 5, 0, 0, 1] (ws' := wX8 σ) (pc' := 185) (ls' := [(3, .int q1), (0, .ref 0), (1, .int a1), (2, .int a2)]) (st' := [.int 0]) (ps := [¬ q3 = 1, vp_in q1 80, (σ 6 q1.toNatClampNeg).toInt = 0 + ((4 : Nat) : Int), 4 < 8, ¬ 7 < (σ 6 q1.toNatClampNeg).toInt, ¬ a2 = a1, ¬ (σ 0 35) = (-1), ¬ (σ 0 35) = a2]) rfl ⟨c4, g5, (by rw [c20]; decide), (by decide), (by rw [c20]; decide), c21, c22, c23, trivial⟩ ?_
                      cases h
                      exact hV.rz rfl rfl rfl (Or.inl rfl) hP
              · rw [if_neg c20] at h
                by_cases c24 : (σ 6 q1.toNatClampNeg) = 5
                · rw [if_pos c24] at h
                  refine hV.run 9 [1, 6] (ws' := wX8 σ) (pc' := 188) (ls' := [(3, .int q1), (0, .ref 0), (1, .int a1), (2, .int a2)]) (st' := [.int a1, .ref 0]) (ps := [¬ q3 = 1, vp_in q1 80, (σ 6 q1.toNatClampNeg).toInt = 0 + ((5 : Nat) : Int), 5 < 8, ¬ 7 < (σ 6 q1.toNatClampNeg).toInt]) rfl ⟨c4, g5, (by rw [c24]; decide), (by decide), (by rw [c24]; decide), trivial⟩ ?_
                  obtain ⟨q25, hq25, h⟩ := am_bind h
                  refine hV.cOi (as := [.int a1]) (rest := []) (st := [.int a1, .ref 0]) (ws2 := wX8 σ) (pc2 := 191) kX8_387 (c_X8_begun l n σ a1 q25 hq25) rfl rfl rfl rfl rfl rfl rfl rfl rfl ?_
                  by_cases c26 : q25 = 0
                  · rw [if_pos c26] at h
                    refine hV.run 3 [0] (ws' := wX8 σ) (pc' := 199) (ls' := [(3, .int q1), (0, .ref 0), (1, .int a1), (2, .int a2)]) (st' := [.int 1]) (ps := [q25 = 0]) rfl ⟨c26, trivial⟩ ?_
                    cases h
                    exact hV.rz rfl rfl rfl (Or.inr rfl) hP
                  · rw [if_neg c26] at h
                    refine hV.run 2 [1] (ws' := wX8 σ) (pc' := 199) (ls' := [(3, .int q1), (0, .ref 0), (1, .int a1), (2, .int a2)]) (st' := [.int 0]) (ps := [¬ q25 = 0]) rfl ⟨c26, trivial⟩ ?_
                    cases h
                    exact hV.rz rfl rfl rfl (Or.inl rfl) hP
                · rw [if_neg c24] at h
                  by_cases c27 : (σ 6 q1.toNatClampNeg) = 6
                  · rw [if_pos c27] at h
                    by_cases c28 : a1 = 0
                    · rw [if_pos c28] at h
                      by_cases g29 : q1 < 0 ∨ 80 ≤ q1.toNatClampNeg
                      · rw [if_pos g29] at h; cases h
                      rw [if_neg g29] at h
                      refine hV.run 14 [1, 7, 0] (ws' := wX8 σ) (pc' := 211) (ls' := [(3, .int q1), (0, .ref 0), (1, .int a1), (2, .int a2)]) (st' := [.int (σ 6 q1.toNatClampNeg), .ref 0]) (ps := [¬ q3 = 1, vp_in q1 80, (σ 6 q1.toNatClampNeg).toInt = 0 + ((6 : Nat) : Int), 6 < 8, ¬ 7 < (σ 6 q1.toNatClampNeg).toInt, a1 = 0, vp_in q1 80]) rfl ⟨c4, g5, (by rw [c27]; decide), (by decide), (by rw [c27]; decide), c28, g29, trivial⟩ ?_
                      obtain ⟨q30, hq30, h⟩ := am_bind h
                      refine hV.cOi (as := [.int (σ 6 q1.toNatClampNeg)]) (rest := []) (st := [.int (σ 6 q1.toNatClampNeg), .ref 0]) (ws2 := wX8 σ) (pc2 := 214) kX8_390 (c_X8_areAll l n σ (σ 6 q1.toNatClampNeg) q30 hq30) rfl rfl rfl rfl rfl rfl rfl rfl rfl ?_
                      by_cases c31 : q30 = true
                      · rw [if_pos c31] at h
                        refine hV.run 3 [0] (ws' := wX8 σ) (pc' := 222) (ls' := [(3, .int q1), (0, .ref 0), (1, .int a1), (2, .int a2)]) (st' := [.int 1]) (ps := [¬ (b2i q30) = 0]) rfl ⟨(b2i_t c31), trivial⟩ ?_
                        cases h
                        exact hV.rz rfl rfl rfl (Or.inr rfl) hP
                      · rw [if_neg c31] at h
                        refine hV.run 2 [1] (ws' := wX8 σ) (pc' := 222) (ls' := [(3, .int q1), (0, .ref 0), (1, .int a1), (2, .int a2)]) (st' := [.int 0]) (ps := [(b2i q30) = 0]) rfl ⟨(b2i_f c31), trivial⟩ ?_
                        cases h
                        exact hV.rz rfl rfl rfl (Or.inl rfl) hP
                    · rw [if_neg c28] at h
                      refine hV.run 10 [1, 7, 1] (ws' := wX8 σ) (pc' := 222) (ls' := [(3, .int q1), (0, .ref 0), (1, .int a1), (2, .int a2)]) (st' := [.int 0]) (ps := [¬ q3 = 1, vp_in q1 80, (σ 6 q1.toNatClampNeg).toInt = 0 + ((6 : Nat) : Int), 6 < 8, ¬ 7 < (σ 6 q1.toNatClampNeg).toInt, ¬ a1 = 0]) rfl ⟨c4, g5, (by rw [c27]; decide), (by decide), (by rw [c27]; decide), c28, trivial⟩ ?_
                      cases h
                      exact hV.rz rfl rfl rfl (Or.inl rfl) hP
                  · rw [if_neg c27] at h
                    by_cases c32 : (σ 6 q1.toNatClampNeg) = 7
                    · rw [if_pos c32] at h
                      by_cases c33 : a1 = 0
                      · rw [if_pos c33] at h
                        by_cases g34 : q1 < 0 ∨ 80 ≤ q1.toNatClampNeg
                        · rw [if_pos g34] at h; cases h
                        rw [if_neg g34] at h
                        refine hV.run 14 [1, 8, 0] (ws' := wX8 σ) (pc' := 211) (ls' := [(3, .int q1), (0, .ref 0), (1, .int a1), (2, .int a2)]) (st' := [.int (σ 6 q1.toNatClampNeg), .ref 0]) (ps := [¬ q3 = 1, vp_in q1 80, (σ 6 q1.toNatClampNeg).toInt = 0 + ((7 : Nat) : Int), 7 < 8, ¬ 7 < (σ 6 q1.toNatClampNeg).toInt, a1 = 0, vp_in q1 80]) rfl ⟨c4, g5, (by rw [c32]; decide), (by decide), (by rw [c32]; decide), c33, g34, trivial⟩ ?_
                        obtain ⟨q35, hq35, h⟩ := am_bind h
                        refine hV.cOi (as := [.int (σ 6 q1.toNatClampNeg)]) (rest := []) (st := [.int (σ 6 q1.toNatClampNeg), .ref 0]) (ws2 := wX8 σ) (pc2 := 214) kX8_390 (c_X8_areAll l n σ (σ 6 q1.toNatClampNeg) q35 hq35) rfl rfl rfl rfl rfl rfl rfl rfl rfl ?_
                        by_cases c36 : q35 = true
                        · rw [if_pos c36] at h
                          refine hV.run 3 [0] (ws' := wX8 σ) (pc' := 222) (ls' := [(3, .int q1), (0, .ref 0), (1, .int a1), (2, .int a2)]) (st' := [.int 1]) (ps := [¬ (b2i q35) = 0]) rfl ⟨(b2i_t c36), trivial⟩ ?_
                          cases h
                          exact hV.rz rfl rfl rfl (Or.inr rfl) hP
                        · rw [if_neg c36] at h
                          refine hV.run 2 [1] (ws' := wX8 σ) (pc' := 222) (ls' := [(3, .int q1), (0, .ref 0), (1, .int a1), (2, .int a2)]) (st' := [.int 0]) (ps := [(b2i q35) = 0]) rfl ⟨(b2i_f c36), trivial⟩ ?_
                          cases h
                          exact hV.rz rfl rfl rfl (Or.inl rfl) hP
                      · rw [if_neg c33] at h
                        refine hV.run 10 [1, 8, 1] (ws' := wX8 σ) (pc' := 222) (ls' := [(3, .int q1), (0, .ref 0), (1, .int a1), (2, .int a2)]) (st' := [.int 0]) (ps := [¬ q3 = 1, vp_in q1 80, (σ 6 q1.toNatClampNeg).toInt = 0 + ((7 : Nat) : Int), 7 < 8, ¬ 7 < (σ 6 q1.toNatClampNeg).toInt, ¬ a1 = 0]) rfl ⟨c4, g5, (by rw [c32]; decide), (by decide), (by rw [c32]; decide), c33, trivial⟩ ?_
                        cases h
                        exact hV.rz rfl rfl rfl (Or.inl rfl) hP
                    · rw [if_neg c32] at h
                      refine hV.run 8 [1, 0] (ws' := wX8 σ) (pc' := 224) (ls' := [(3, .int q1), (0, .ref 0), (1, .int a1), (2, .int a2)]) (st' := [.int 0]) (ps := [¬ q3 = 1, vp_in q1 80, (σ 6 q1.toNatClampNeg).toInt < 0 ∨ 7 < (σ 6 q1.toNatClampNeg).toInt]) rfl ⟨c4, g5, (by have c6_ := am_ne c6 (by decide : (0 : Int32).toInt = 0); have c12_ := am_ne c12 (by decide : (1 : Int32).toInt = 1); have c14_ := am_ne c14 (by decide : (2 : Int32).toInt = 2); have c15_ := am_ne c15 (by decide : (3 : Int32).toInt = 3); have c20_ := am_ne c20 (by decide : (4 : Int32).toInt = 4); have c24_ := am_ne c24 (by decide : (5 : Int32).toInt = 5); have c27_ := am_ne c27 (by decide : (6 : Int32).toInt = 6); have c32_ := am_ne c32 (by decide : (7 : Int32).toInt = 7); omega), trivial⟩ ?_
                      cases h
                      exact hV.rz rfl rfl rfl (Or.inl rfl) hP

def X8_upTo (σ : am_M) (a1 : Int32) (a2 : Int32) : Option am_M := if a1 < 0 ∨ 8 ≤ a1.toNatClampNeg then none else (if a1 < 0 ∨ 8 ≤ a1.toNatClampNeg then none else (if a1 < 0 ∨ 8 ≤ a1.toNatClampNeg then none else (if a1 < 0 ∨ 8 ≤ a1.toNatClampNeg then none else (if a1 < 0 ∨ 8 ≤ a1.toNatClampNeg then none else (some (sC (sC σ 17 (upd (σ 17) a1.toNatClampNeg ((σ 17 a1.toNatClampNeg) + (J9_max_7cf53 0 (a2 - (σ 17 a1.toNatClampNeg)))))) 18 (upd (σ 18) a1.toNatClampNeg ((σ 18 a1.toNatClampNeg) + (J9_max_7cf53 0 (a2 - (σ 17 a1.toNatClampNeg)))))))))))
set_option maxRecDepth 100000 in
set_option maxHeartbeats 4000000 in
theorem c_X8_upTo (l : Launch) (σ : am_M) (a1 : Int32) (a2 : Int32) (res : am_M) (h : X8_upTo σ a1 a2 = some res) : am_Con l yX8_upTo cX8_upTo 4 none 2 [.ref 0, .int a1, .int a2] (wX8 σ) (fun (r : Option Value) (w : am_W) => r = none ∧ w = (wX8 res)) := by
  refine am_metn (n0 := 36) (own := RX8) (cd := am_cdT' tX8_upTo) (rf := am_rfL rfX8) (ini := false) rfl (by decide +kernel) rfl (by decide) dX8_upTo rfX8_ok (Nat.le_of_ble_eq_true rfl) ?_
  intro V hV
  have hP : (fun (r : Option Value) (w : am_W) => r = none ∧ w = (wX8 res)) none (wX8 res) := ⟨rfl, rfl⟩
  show V (wX8 σ) 0 [(0, .ref 0), (1, .int a1), (2, .int a2)] []
  unfold X8_upTo at h
  by_cases g1 : a1 < 0 ∨ 8 ≤ a1.toNatClampNeg
  · rw [if_pos g1] at h; cases h
  rw [if_neg g1] at h
  refine hV.run 7 [] (ws' := wX8 σ) (pc' := 9) (ls' := [(0, .ref 0), (1, .int a1), (2, .int a2)]) (st' := [.int (a2 - (σ 17 a1.toNatClampNeg)), .int 0]) (ps := [vp_in a1 8]) rfl ⟨g1, trivial⟩ ?_
  refine hV.cSi (as := [.int 0, .int (a2 - (σ 17 a1.toNatClampNeg))]) (js := []) (rest := []) (st := [.int (a2 - (σ 17 a1.toNatClampNeg)), .int 0]) (ws2 := wX8 σ) (pc2 := 12) kX8_396 (c_J9_max_7cf53 l 0 (a2 - (σ 17 a1.toNatClampNeg))) rfl rfl rfl rfl rfl rfl rfl rfl rfl rfl ?_
  by_cases g2 : a1 < 0 ∨ 8 ≤ a1.toNatClampNeg
  · rw [if_pos g2] at h; cases h
  rw [if_neg g2] at h
  by_cases g3 : a1 < 0 ∨ 8 ≤ a1.toNatClampNeg
  · rw [if_pos g3] at h; cases h
  rw [if_neg g3] at h
  by_cases g4 : a1 < 0 ∨ 8 ≤ a1.toNatClampNeg
  · rw [if_pos g4] at h; cases h
  rw [if_neg g4] at h
  by_cases g5 : a1 < 0 ∨ 8 ≤ a1.toNatClampNeg
  · rw [if_pos g5] at h; cases h
  rw [if_neg g5] at h
  refine hV.run 17 [] (ws' := wX8 (sC (sC σ 17 (upd (σ 17) a1.toNatClampNeg ((σ 17 a1.toNatClampNeg) + (J9_max_7cf53 0 (a2 - (σ 17 a1.toNatClampNeg)))))) 18 (upd (σ 18) a1.toNatClampNeg ((σ 18 a1.toNatClampNeg) + (J9_max_7cf53 0 (a2 - (σ 17 a1.toNatClampNeg))))))) (pc' := 33) (ls' := [(3, .int (J9_max_7cf53 0 (a2 - (σ 17 a1.toNatClampNeg)))), (0, .ref 0), (1, .int a1), (2, .int a2)]) (st' := []) (ps := [vp_in a1 8, vp_in a1 8, vp_in a1 8, vp_in a1 8]) rfl ⟨g2, g3, g4, g5, trivial⟩ ?_
  cases h
  exact hV.rv rfl rfl rfl hP

