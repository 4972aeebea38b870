def X8_asked_J133 (n : Nat) (kont22 : am_M → Int32 → Int32 → Int32 → Int32 → Option (Int32 × am_M)) (σ : am_M) (l1 : Int32) (l3 : Int32) (l4 : Int32) (l5 : Int32) : Option (Int32 × am_M) := kont22 σ l1 l3 l4 (l5 + 1)
set_option maxRecDepth 100000 in
set_option maxHeartbeats 4000000 in
theorem p_X8_asked_J133 {l : Launch} {Post : Option Value → am_W → Prop} {V : am_VT} (hV : am_B l RX8 false 3 (am_cdT' tX8_asked) (am_rfL rfX8) (some .int) Post 36 V) (n : Nat) (res : (Int32 × am_M)) (hP : Post (some (.int res.1)) (wX8 res.2)) (kont22 : am_M → Int32 → Int32 → Int32 → Int32 → Option (Int32 × am_M)) (hk22 : ∀ (σ : am_M) (l1 : Int32) (l3 : Int32) (l4 : Int32) (l5 : Int32), kont22 σ l1 l3 l4 l5 = some res → V (wX8 σ) 22 [(0, .ref 0), (1, .int l1), (3, .int l3), (4, .int l4), (5, .int l5)] []) (σ : am_M) (l1 : Int32) (l3 : Int32) (l4 : Int32) (l5 : Int32) (h : X8_asked_J133 n kont22 σ l1 l3 l4 l5 = some res) : V (wX8 σ) 133 [(0, .ref 0), (1, .int l1), (3, .int l3), (4, .int l4), (5, .int l5)] [] := by
  unfold X8_asked_J133 at h
  refine hV.run 2 [] (ws' := wX8 σ) (pc' := 22) (ls' := [(5, .int (l5 + 1)), (0, .ref 0), (1, .int l1), (3, .int l3), (4, .int l4)]) (st' := []) (ps := []) rfl trivial ?_
  refine hV.pick [1, 2, 3, 4, 0] (ls' := [(0, .ref 0), (1, .int l1), (3, .int l3), (4, .int l4), (5, .int (l5 + 1))]) rfl ?_
  exact hk22 σ l1 l3 l4 (l5 + 1) h
def X8_asked_B22 (n : Nat) (kont22 : am_M → Int32 → Int32 → Int32 → Int32 → Option (Int32 × am_M)) (σ : am_M) (l1 : Int32) (l3 : Int32) (l4 : Int32) (l5 : Int32) : Option (Int32 × am_M) := if l3 < 0 ∨ 240 ≤ l3.toNatClampNeg then none else (if (σ 8 l3.toNatClampNeg) ≤ l5 then (some ((σ 16 (0 : Int32).toNatClampNeg), σ)) else (if l5 < 0 ∨ 2160 ≤ l5.toNatClampNeg then none else (if (σ 5 l5.toNatClampNeg) = 0 then (if (l5 + 1) < 0 ∨ 2160 ≤ (l5 + 1).toNatClampNeg then none else (if l4 < 0 ∨ 360 ≤ l4.toNatClampNeg then none else (X8_asked_J133 n kont22 (sC σ 16 (upd (σ 16) l4.toNatClampNeg (σ 5 (l5 + 1).toNatClampNeg))) l1 l3 (l4 + 1) (l5 + 1)))) else (if (σ 5 l5.toNatClampNeg) < 20 then (if ((l4 + (-1)) - 1) < 0 ∨ 360 ≤ ((l4 + (-1)) - 1).toNatClampNeg then none else (if (l4 + (-1)) < 0 ∨ 360 ≤ (l4 + (-1)).toNatClampNeg then none else (if ((l4 + (-1)) - 1) < 0 ∨ 360 ≤ ((l4 + (-1)) - 1).toNatClampNeg then none else (X8_asked_J133 n kont22 (sC σ 16 (upd (σ 16) ((l4 + (-1)) - 1).toNatClampNeg (X8_two (σ 5 l5.toNatClampNeg) (σ 16 ((l4 + (-1)) - 1).toNatClampNeg) (σ 16 (l4 + (-1)).toNatClampNeg)))) l1 l3 (l4 + (-1)) l5)))) else (X8_valueOf σ l1 ((σ 5 l5.toNatClampNeg) - 20)).bind (fun q11 => if l4 < 0 ∨ 360 ≤ l4.toNatClampNeg then none else (X8_asked_J133 n kont22 (sC σ 16 (upd (σ 16) l4.toNatClampNeg q11)) l1 l3 (l4 + 1) l5))))))
def X8_asked_L22 (n : Nat) : Nat → am_M → Int32 → Int32 → Int32 → Int32 → Option (Int32 × am_M)
 | 0 => fun _ _ _ _ _ => none
 | k + 1 => fun σ l1 l3 l4 l5 => X8_asked_B22 n (X8_asked_L22 n k) σ l1 l3 l4 l5
set_option maxRecDepth 100000 in
set_option maxHeartbeats 4000000 in
theorem p_X8_asked_B22 {l : Launch} {Post : Option Value → am_W → Prop} {V : am_VT} (hV : am_B l RX8 false 3 (am_cdT' tX8_asked) (am_rfL rfX8) (some .int) Post 36 V) (n : Nat) (res : (Int32 × am_M)) (hP : Post (some (.int res.1)) (wX8 res.2)) (kont22 : am_M → Int32 → Int32 → Int32 → Int32 → Option (Int32 × am_M)) (hk22 : ∀ (σ : am_M) (l1 : Int32) (l3 : Int32) (l4 : Int32) (l5 : Int32), kont22 σ l1 l3 l4 l5 = some res → V (wX8 σ) 22 [(0, .ref 0), (1, .int l1), (3, .int l3), (4, .int l4), (5, .int l5)] []) (σ : am_M) (l1 : Int32) (l3 : Int32) (l4 : Int32) (l5 : Int32) (h : X8_asked_B22 n kont22 σ l1 l3 l4 l5 = some res) : V (wX8 σ) 22 [(0, .ref 0), (1, .int l1), (3, .int l3), (4, .int l4), (5, .int l5)] [] := by
  unfold X8_asked_B22 at h
  by_cases g1 : l3 < 0 ∨ 240 ≤ l3.toNatClampNeg
  · rw [if_pos g1] at h; cases h
  rw [if_neg g1] at h
  by_cases c2 : (σ 8 l3.toNatClampNeg) ≤ l5
  · rw [if_pos c2] at h
    refine hV.run 10 [1] (ws' := wX8 σ) (pc' := 145) (ls' := [(0, .ref 0), (1, .int l1), (3, .int l3), (4, .int l4), (5, .int l5)]) (st' := [.int (σ 16 (0 : Int32).toNatClampNeg)]) (ps := [vp_in l3 240, (σ 8 l3.toNatClampNeg) ≤ l5, vp_in (0 : Int32) 360]) rfl ⟨g1, c2, (am_inc (by decide)), trivial⟩ ?_
    cases h
    exact hV.ri rfl rfl rfl hP
  · rw [if_neg c2] at h
    by_cases g3 : l5 < 0 ∨ 2160 ≤ l5.toNatClampNeg
    · rw [if_pos g3] at h; cases h
    rw [if_neg g3] at h
    by_cases c4 : (σ 5 l5.toNatClampNeg) = 0
    · rw [if_pos c4] at h
      by_cases g5 : (l5 + 1) < 0 ∨ 2160 ≤ (l5 + 1).toNatClampNeg
      · rw [if_pos g5] at h; cases h
      rw [if_neg g5] at h
      by_cases g6 : l4 < 0 ∨ 360 ≤ l4.toNatClampNeg
      · rw [if_pos g6] at h; cases h
      rw [if_neg g6] at h
      refine hV.run 24 [0, 0] (ws' := wX8 (sC σ 16 (upd (σ 16) l4.toNatClampNeg (σ 5 (l5 + 1).toNatClampNeg)))) (pc' := 133) (ls' := [(4, .int (l4 + 1)), (5, .int (l5 + 1)), (6, .int (σ 5 l5.toNatClampNeg)), (0, .ref 0), (1, .int l1), (3, .int l3)]) (st' := []) (ps := [vp_in l3 240, ¬ (σ 8 l3.toNatClampNeg) ≤ l5, vp_in l5 2160, (σ 5 l5.toNatClampNeg) = 0, vp_in (l5 + 1) 2160, vp_in l4 360]) rfl ⟨g1, c2, g3, c4, g5, g6, trivial⟩ ?_
      refine hV.pick [3, 4, 5, 0, 1] (ls' := [(0, .ref 0), (1, .int l1), (3, .int l3), (4, .int (l4 + 1)), (5, .int (l5 + 1))]) rfl ?_
      exact p_X8_asked_J133 hV n res hP kont22 hk22 (sC σ 16 (upd (σ 16) l4.toNatClampNeg (σ 5 (l5 + 1).toNatClampNeg))) l1 l3 (l4 + 1) (l5 + 1) h
    · rw [if_neg c4] at h
      by_cases c7 : (σ 5 l5.toNatClampNeg) < 20
      · rw [if_pos c7] at h
        by_cases g8 : ((l4 + (-1)) - 1) < 0 ∨ 360 ≤ ((l4 + (-1)) - 1).toNatClampNeg
        · rw [if_pos g8] at h; cases h
        rw [if_neg g8] at h
        by_cases g9 : (l4 + (-1)) < 0 ∨ 360 ≤ (l4 + (-1)).toNatClampNeg
        · rw [if_pos g9] at h; cases h
        rw [if_neg g9] at h
        refine hV.run 33 [0, 1, 1] (ws' := wX8 σ) (pc' := 129) (ls' := [(4, .int (l4 + (-1))), (6, .int (σ 5 l5.toNatClampNeg)), (0, .ref 0), (1, .int l1), (3, .int l3), (5, .int l5)]) (st' := [.int (σ 16 (l4 + (-1)).toNatClampNeg), .int (σ 16 ((l4 + (-1)) - 1).toNatClampNeg), .int (σ 5 l5.toNatClampNeg), .int ((l4 + (-1)) - 1), .ref 16]) (ps := [vp_in l3 240, ¬ (σ 8 l3.toNatClampNeg) ≤ l5, vp_in l5 2160, ¬ (σ 5 l5.toNatClampNeg) = 0, (σ 5 l5.toNatClampNeg) < 20, vp_in ((l4 + (-1)) - 1) 360, vp_in (l4 + (-1)) 360]) rfl ⟨g1, c2, g3, c4, c7, g8, g9, trivial⟩ ?_
        refine hV.cSi (as := [.int (σ 5 l5.toNatClampNeg), .int (σ 16 ((l4 + (-1)) - 1).toNatClampNeg), .int (σ 16 (l4 + (-1)).toNatClampNeg)]) (js := []) (rest := [.int ((l4 + (-1)) - 1), .ref 16]) (st := [.int (σ 16 (l4 + (-1)).toNatClampNeg), .int (σ 16 ((l4 + (-1)) - 1).toNatClampNeg), .int (σ 5 l5.toNatClampNeg), .int ((l4 + (-1)) - 1), .ref 16]) (ws2 := wX8 σ) (pc2 := 132) kX8_343 (c_X8_two l (σ 5 l5.toNatClampNeg) (σ 16 ((l4 + (-1)) - 1).toNatClampNeg) (σ 16 (l4 + (-1)).toNatClampNeg)) rfl rfl rfl rfl rfl rfl rfl rfl rfl rfl ?_
        by_cases g10 : ((l4 + (-1)) - 1) < 0 ∨ 360 ≤ ((l4 + (-1)) - 1).toNatClampNeg
        · rw [if_pos g10] at h; cases h
        rw [if_neg g10] at h
        refine hV.run 1 [] (ws' := wX8 (sC σ 16 (upd (σ 16) ((l4 + (-1)) - 1).toNatClampNeg (X8_two (σ 5 l5.toNatClampNeg) (σ 16 ((l4 + (-1)) - 1).toNatClampNeg) (σ 16 (l4 + (-1)).toNatClampNeg))))) (pc' := 133) (ls' := [(4, .int (l4 + (-1))), (6, .int (σ 5 l5.toNatClampNeg)), (0, .ref 0), (1, .int l1), (3, .int l3), (5, .int l5)]) (st' := []) (ps := [vp_in ((l4 + (-1)) - 1) 360]) rfl ⟨g10, trivial⟩ ?_
        refine hV.pick [2, 3, 4, 0, 5] (ls' := [(0, .ref 0), (1, .int l1), (3, .int l3), (4, .int (l4 + (-1))), (5, .int l5)]) rfl ?_
        exact p_X8_asked_J133 hV n res hP kont22 hk22 (sC σ 16 (upd (σ 16) ((l4 + (-1)) - 1).toNatClampNeg (X8_two (σ 5 l5.toNatClampNeg) (σ 16 ((l4 + (-1)) - 1).toNatClampNeg) (σ 16 (l4 + (-1)).toNatClampNeg)))) l1 l3 (l4 + (-1)) l5 h
      · rw [if_neg c7] at h
        refine hV.run 24 [0, 1, 0] (ws' := wX8 σ) (pc' := 90) (ls' := [(6, .int (σ 5 l5.toNatClampNeg)), (0, .ref 0), (1, .int l1), (3, .int l3), (4, .int l4), (5, .int l5)]) (st' := [.int ((σ 5 l5.toNatClampNeg) - 20), .int l1, .ref 0, .int l4, .ref 16]) (ps := [vp_in l3 240, ¬ (σ 8 l3.toNatClampNeg) ≤ l5, vp_in l5 2160, ¬ (σ 5 l5.toNatClampNeg) = 0, ¬ (σ 5 l5.toNatClampNeg) < 20]) rfl ⟨g1, c2, g3, c4, c7, trivial⟩ ?_
        obtain ⟨q11, hq11, h⟩ := am_bind h
        refine hV.cOi (as := [.int l1, .int ((σ 5 l5.toNatClampNeg) - 20)]) (rest := [.int l4, .ref 16]) (st := [.int ((σ 5 l5.toNatClampNeg) - 20), .int l1, .ref 0, .int l4, .ref 16]) (ws2 := wX8 σ) (pc2 := 93) kX8_340 (c_X8_valueOf l σ l1 ((σ 5 l5.toNatClampNeg) - 20) q11 hq11) rfl rfl rfl rfl rfl rfl rfl rfl rfl ?_
        by_cases g12 : l4 < 0 ∨ 360 ≤ l4.toNatClampNeg
        · rw [if_pos g12] at h; cases h
        rw [if_neg g12] at h
        refine hV.run 3 [] (ws' := wX8 (sC σ 16 (upd (σ 16) l4.toNatClampNeg q11))) (pc' := 133) (ls' := [(4, .int (l4 + 1)), (6, .int (σ 5 l5.toNatClampNeg)), (0, .ref 0), (1, .int l1), (3, .int l3), (5, .int l5)]) (st' := []) (ps := [vp_in l4 360]) rfl ⟨g12, trivial⟩ ?_
        refine hV.pick [2, 3, 4, 0, 5] (ls' := [(0, .ref 0), (1, .int l1), (3, .int l3), (4, .int (l4 + 1)), (5, .int l5)]) rfl ?_
        exact p_X8_asked_J133 hV n res hP kont22 hk22 (sC σ 16 (upd (σ 16) l4.toNatClampNeg q11)) l1 l3 (l4 + 1) l5 h
theorem p_X8_asked_L22 {l : Launch} {Post : Option Value → am_W → Prop} {V : am_VT} (hV : am_B l RX8 false 3 (am_cdT' tX8_asked) (am_rfL rfX8) (some .int) Post 36 V) (n : Nat) (res : (Int32 × am_M)) (hP : Post (some (.int res.1)) (wX8 res.2)) : ∀ (k : Nat) (σ : am_M) (l1 : Int32) (l3 : Int32) (l4 : Int32) (l5 : Int32) (h : X8_asked_L22 n k σ l1 l3 l4 l5 = some res), V (wX8 σ) 22 [(0, .ref 0), (1, .int l1), (3, .int l3), (4, .int l4), (5, .int l5)] [] := by
  intro k
  induction k with
  | zero => intro σ l1 l3 l4 l5 h; cases h
  | succ k ih => intro σ l1 l3 l4 l5 h; exact p_X8_asked_B22 hV n res hP _ ih σ l1 l3 l4 l5 h
def X8_asked (n : Nat) (σ : am_M) (a1 : Int32) (a2 : Int32) : Option (Int32 × am_M) := (X8_own σ a1 0).bind (fun q1 => if ((3 * q1) + a2) < 0 ∨ 240 ≤ ((3 * q1) + a2).toNatClampNeg then none else (X8_asked_L22 n n σ a1 ((3 * q1) + a2) 0 (σ 7 ((3 * q1) + a2).toNatClampNeg)))
set_option maxRecDepth 100000 in
set_option maxHeartbeats 4000000 in
theorem c_X8_asked (l : Launch) (n : Nat) (σ : am_M) (a1 : Int32) (a2 : Int32) (res : (Int32 × am_M)) (h : X8_asked n σ a1 a2 = some res) : am_Con l yX8_asked cX8_asked 7 (some .int) 3 [.ref 0, .int a1, .int a2] (wX8 σ) (fun (r : Option Value) (w : am_W) => r = (some (.int res.1)) ∧ w = (wX8 res.2)) := by
  refine am_metn (n0 := 36) (own := RX8) (cd := am_cdT' tX8_asked) (rf := am_rfL rfX8) (ini := false) rfl (by decide +kernel) rfl (by decide) dX8_asked rfX8_ok (Nat.le_of_ble_eq_true rfl) ?_
  intro V hV
  have hP : (fun (r : Option Value) (w : am_W) => r = (some (.int res.1)) ∧ w = (wX8 res.2)) (some (.int res.1)) (wX8 res.2) := ⟨rfl, rfl⟩
  show V (wX8 σ) 0 [(0, .ref 0), (1, .int a1), (2, .int a2)] []
  unfold X8_asked at h
  refine hV.run 4 [] (ws' := wX8 σ) (pc' := 4) (ls' := [(0, .ref 0), (1, .int a1), (2, .int a2)]) (st' := [.int 0, .int a1, .ref 0, .int 3]) (ps := []) rfl trivial ?_
  obtain ⟨q1, hq1, h⟩ := am_bind h
  refine hV.cOi (as := [.int a1, .int 0]) (rest := [.int 3]) (st := [.int 0, .int a1, .ref 0, .int 3]) (ws2 := wX8 σ) (pc2 := 7) kX8_337 (c_X8_own l σ a1 0 q1 hq1) rfl rfl rfl rfl rfl rfl rfl rfl rfl ?_
  by_cases g2 : ((3 * q1) + a2) < 0 ∨ 240 ≤ ((3 * q1) + a2).toNatClampNeg
  · rw [if_pos g2] at h; cases h
  rw [if_neg g2] at h
  refine hV.run 11 [] (ws' := wX8 σ) (pc' := 22) (ls' := [(5, .int (σ 7 ((3 * q1) + a2).toNatClampNeg)), (4, .int 0), (3, .int ((3 * q1) + a2)), (0, .ref 0), (1, .int a1), (2, .int a2)]) (st' := []) (ps := [vp_in ((3 * q1) + a2) 240]) rfl ⟨g2, trivial⟩ ?_
  refine hV.pick [3, 4, 2, 1, 0] (ls' := [(0, .ref 0), (1, .int a1), (3, .int ((3 * q1) + a2)), (4, .int 0), (5, .int (σ 7 ((3 * q1) + a2).toNatClampNeg))]) rfl ?_
  exact p_X8_asked_L22 hV n res hP n σ a1 ((3 * q1) + a2) 0 (σ 7 ((3 * q1) + a2).toNatClampNeg) h

def X8_following_B7 (n : Nat) (σ : am_M) (kont7 : Int32 → Option Int32) (l2 : Int32) : Option Int32 := if (-2) < l2 then (some l2) else (if ((-2) - l2) < 0 ∨ 80 ≤ ((-2) - l2).toNatClampNeg then none else (kont7 (σ 11 ((-2) - l2).toNatClampNeg)))
def X8_following_L7 (n : Nat) (σ : am_M) : Nat → Int32 → Option Int32
 | 0 => fun _ => none
 | k + 1 => fun l2 => X8_following_B7 n σ (X8_following_L7 n σ k) l2
set_option maxRecDepth 100000 in
set_option maxHeartbeats 4000000 in
theorem p_X8_following_B7 {l : Launch} {Post : Option Value → am_W → Prop} {V : am_VT} (hV : am_B l RX8 false 1 (am_cdT' tX8_following) (am_rfL rfX8) (some .int) Post 36 V) (n : Nat) (σ : am_M) (res : Int32) (hP : Post (some (.int res)) (wX8 σ)) (kont7 : Int32 → Option Int32) (hk7 : ∀ (l2 : Int32), kont7 l2 = some res → V (wX8 σ) 7 [(0, .ref 0), (2, .int l2)] []) (l2 : Int32) (h : X8_following_B7 n σ kont7 l2 = some res) : V (wX8 σ) 7 [(0, .ref 0), (2, .int l2)] [] := by
  unfold X8_following_B7 at h
  by_cases c1 : (-2) < l2
  · rw [if_pos c1] at h
    refine hV.run 4 [1] (ws' := wX8 σ) (pc' := 27) (ls' := [(0, .ref 0), (2, .int l2)]) (st' := [.int l2]) (ps := [(-2) < l2]) rfl ⟨c1, trivial⟩ ?_
    cases h
    exact hV.ri rfl rfl rfl hP
  · rw [if_neg c1] at h
    by_cases g2 : ((-2) - l2) < 0 ∨ 80 ≤ ((-2) - l2).toNatClampNeg
    · rw [if_pos g2] at h; cases h
    rw [if_neg g2] at h
    refine hV.run 11 [0] (ws' := wX8 σ) (pc' := 7) (ls' := [(2, .int (σ 11 ((-2) - l2).toNatClampNeg)), (0, .ref 0)]) (st' := []) (ps := [¬ (-2) < l2, vp_in ((-2) - l2) 80]) rfl ⟨c1, g2, trivial⟩ ?_
    refine hV.pick [1, 0] (ls' := [(0, .ref 0), (2, .int (σ 11 ((-2) - l2).toNatClampNeg))]) rfl ?_
    exact hk7 (σ 11 ((-2) - l2).toNatClampNeg) h
theorem p_X8_following_L7 {l : Launch} {Post : Option Value → am_W → Prop} {V : am_VT} (hV : am_B l RX8 false 1 (am_cdT' tX8_following) (am_rfL rfX8) (some .int) Post 36 V) (n : Nat) (σ : am_M) (res : Int32) (hP : Post (some (.int res)) (wX8 σ)) : ∀ (k : Nat) (l2 : Int32) (h : X8_following_L7 n σ k l2 = some res), V (wX8 σ) 7 [(0, .ref 0), (2, .int l2)] [] := by
  intro k
  induction k with
  | zero => intro l2 h; cases h
  | succ k ih => intro l2 h; exact p_X8_following_B7 hV n σ res hP _ ih l2 h
def X8_following (n : Nat) (σ : am_M) (a1 : Int32) : Option Int32 := if a1 < 0 ∨ 80 ≤ a1.toNatClampNeg then none else (X8_following_L7 n σ n (σ 11 a1.toNatClampNeg))
set_option maxRecDepth 100000 in
set_option maxHeartbeats 4000000 in
theorem c_X8_following (l : Launch) (n : Nat) (σ : am_M) (a1 : Int32) (res : Int32) (h : X8_following n σ a1 = some res) : am_Con l yX8_following cX8_following 3 (some .int) 1 [.ref 0, .int a1] (wX8 σ) (fun (r : Option Value) (w : am_W) => r = (some (.int res)) ∧ w = (wX8 σ)) := by
  refine am_metn (n0 := 36) (own := RX8) (cd := am_cdT' tX8_following) (rf := am_rfL rfX8) (ini := false) rfl (by decide +kernel) rfl (by decide) dX8_following rfX8_ok (Nat.le_of_ble_eq_true rfl) ?_
  intro V hV
  have hP : (fun (r : Option Value) (w : am_W) => r = (some (.int res)) ∧ w = (wX8 σ)) (some (.int res)) (wX8 σ) := ⟨rfl, rfl⟩
  show V (wX8 σ) 0 [(0, .ref 0), (1, .int a1)] []
  unfold X8_following at h
  by_cases g1 : a1 < 0 ∨ 80 ≤ a1.toNatClampNeg
  · rw [if_pos g1] at h; cases h
  rw [if_neg g1] at h
  refine hV.run 5 [] (ws' := wX8 σ) (pc' := 7) (ls' := [(2, .int (σ 11 a1.toNatClampNeg)), (0, .ref 0), (1, .int a1)]) (st' := []) (ps := [vp_in a1 80]) rfl ⟨g1, trivial⟩ ?_
  refine hV.pick [1, 0] (ls' := [(0, .ref 0), (2, .int (σ 11 a1.toNatClampNeg))]) rfl ?_
  exact p_X8_following_L7 hV n σ res hP n (σ 11 a1.toNatClampNeg) h

def X8_hasOther (n : Nat) (σ : am_M) (a1 : Int32) : Option (Bool × am_M) := (X8_asked n σ a1 0).bind (fun q1 => if (X8_isIn q1.1 0 ((q1.2 0 3) - 1)) = true then (if q1.1 = a1 then (some (false, q1.2)) else (some (true, q1.2))) else (some (false, q1.2)))
set_option maxRecDepth 100000 in
set_option maxHeartbeats 4000000 in
theorem c_X8_hasOther (l : Launch) (n : Nat) (σ : am_M) (a1 : Int32) (res : (Bool × am_M)) (h : X8_hasOther n σ a1 = some res) : am_Con l yX8_hasOther cX8_hasOther 3 (some .boolean) 4 [.ref 0, .int a1] (wX8 σ) (fun (r : Option Value) (w : am_W) => r = (some (.int (b2i res.1))) ∧ w = (wX8 res.2)) := by
  refine am_metn (n0 := 36) (own := RX8) (cd := am_cdT' tX8_hasOther) (rf := am_rfL rfX8) (ini := false) rfl (by decide +kernel) rfl (by decide) dX8_hasOther rfX8_ok (Nat.le_of_ble_eq_true rfl) ?_
  intro V hV
  have hP : (fun (r : Option Value) (w : am_W) => r = (some (.int (b2i res.1))) ∧ w = (wX8 res.2)) (some (.int (b2i res.1))) (wX8 res.2) := ⟨rfl, rfl⟩
  show V (wX8 σ) 0 [(0, .ref 0), (1, .int a1)] []
  unfold X8_hasOther at h
  refine hV.run 3 [] (ws' := wX8 σ) (pc' := 3) (ls' := [(0, .ref 0), (1, .int a1)]) (st' := [.int 0, .int a1, .ref 0]) (ps := []) rfl trivial ?_
  obtain ⟨q1, hq1, h⟩ := am_bind h
  refine hV.cOi (as := [.int a1, .int 0]) (rest := []) (st := [.int 0, .int a1, .ref 0]) (ws2 := wX8 q1.2) (pc2 := 6) kX8_347 (c_X8_asked l n σ a1 0 q1 hq1) rfl rfl rfl rfl rfl rfl rfl rfl rfl ?_
  refine hV.run 7 [] (ws' := wX8 q1.2) (pc' := 15) (ls' := [(2, .int q1.1), (0, .ref 0), (1, .int a1)]) (st' := [.int ((q1.2 0 3) - 1), .int 0, .int q1.1]) (ps := []) rfl trivial ?_
  refine hV.cSi (as := [.int q1.1, .int 0, .int ((q1.2 0 3) - 1)]) (js := []) (rest := []) (st := [.int ((q1.2 0 3) - 1), .int 0, .int q1.1]) (ws2 := wX8 q1.2) (pc2 := 18) kX8_276 (c_X8_isIn l q1.1 0 ((q1.2 0 3) - 1)) rfl rfl rfl rfl rfl rfl rfl rfl rfl rfl ?_
  by_cases c2 : (X8_isIn q1.1 0 ((q1.2 0 3) - 1)) = true
  · rw [if_pos c2] at h
    by_cases c3 : q1.1 = a1
    · rw [if_pos c3] at h
      refine hV.run 5 [0, 1] (ws' := wX8 q1.2) (pc' := 31) (ls' := [(2, .int q1.1), (0, .ref 0), (1, .int a1)]) (st' := [.int 0]) (ps := [¬ (b2i (X8_isIn q1.1 0 ((q1.2 0 3) - 1))) = 0, q1.1 = a1]) rfl ⟨(b2i_t c2), c3, trivial⟩ ?_
      cases h
      exact hV.rz rfl rfl rfl (Or.inl rfl) hP
    · rw [if_neg c3] at h
      refine hV.run 6 [0, 0] (ws' := wX8 q1.2) (pc' := 31) (ls' := [(2, .int q1.1), (0, .ref 0), (1, .int a1)]) (st' := [.int 1]) (ps := [¬ (b2i (X8_isIn q1.1 0 ((q1.2 0 3) - 1))) = 0, ¬ q1.1 = a1]) rfl ⟨(b2i_t c2), c3, trivial⟩ ?_
      cases h
      exact hV.rz rfl rfl rfl (Or.inr rfl) hP
  · rw [if_neg c2] at h
    refine hV.run 2 [1] (ws' := wX8 q1.2) (pc' := 31) (ls' := [(2, .int q1.1), (0, .ref 0), (1, .int a1)]) (st' := [.int 0]) (ps := [(b2i (X8_isIn q1.1 0 ((q1.2 0 3) - 1))) = 0]) rfl ⟨(b2i_f c2), trivial⟩ ?_
    cases h
    exact hV.rz rfl rfl rfl (Or.inl rfl) hP

def X8_come_J186 (n : Nat) (kont5 : am_M → Int32 → Int32 → Int32 → Option am_M) (σ : am_M) (l1 : Int32) (l4 : Int32) (l5 : Int32) : Option am_M := kont5 σ l1 l5 l4
set_option maxRecDepth 100000 in
set_option maxHeartbeats 4000000 in
theorem p_X8_come_J186 {l : Launch} {Post : Option Value → am_W → Prop} {V : am_VT} (hV : am_B l RX8 false 5 (am_cdT' tX8_come) (am_rfL rfX8) none Post 36 V) (n : Nat) (res : am_M) (hP : Post none (wX8 res)) (kont5 : am_M → Int32 → Int32 → Int32 → Option am_M) (hk5 : ∀ (σ : am_M) (l1 : Int32) (l3 : Int32) (l4 : Int32), kont5 σ l1 l3 l4 = some res → V (wX8 σ) 5 [(0, .ref 0), (1, .int l1), (3, .int l3), (4, .int l4)] []) (σ : am_M) (l1 : Int32) (l4 : Int32) (l5 : Int32) (h : X8_come_J186 n kont5 σ l1 l4 l5 = some res) : V (wX8 σ) 186 [(0, .ref 0), (1, .int l1), (4, .int l4), (5, .int l5)] [] := by
  unfold X8_come_J186 at h
  refine hV.run 3 [] (ws' := wX8 σ) (pc' := 5) (ls' := [(3, .int l5), (0, .ref 0), (1, .int l1), (4, .int l4), (5, .int l5)]) (st' := []) (ps := []) rfl trivial ?_
  refine hV.pick [1, 2, 0, 3] (ls' := [(0, .ref 0), (1, .int l1), (3, .int l5), (4, .int l4)]) rfl ?_
  exact hk5 σ l1 l5 l4 h
def X8_come_J184 (n : Nat) (kont5 : am_M → Int32 → Int32 → Int32 → Option am_M) (σ : am_M) (l1 : Int32) (l4 : Int32) (s0 : Int32) : Option am_M := X8_come_J186 n kont5 σ l1 l4 s0
set_option maxRecDepth 100000 in
set_option maxHeartbeats 4000000 in
theorem p_X8_come_J184 {l : Launch} {Post : Option Value → am_W → Prop} {V : am_VT} (hV : am_B l RX8 false 5 (am_cdT' tX8_come) (am_rfL rfX8) none Post 36 V) (n : Nat) (res : am_M) (hP : Post none (wX8 res)) (kont5 : am_M → Int32 → Int32 → Int32 → Option am_M) (hk5 : ∀ (σ : am_M) (l1 : Int32) (l3 : Int32) (l4 : Int32), kont5 σ l1 l3 l4 = some res → V (wX8 σ) 5 [(0, .ref 0), (1, .int l1), (3, .int l3), (4, .int l4)] []) (σ : am_M) (l1 : Int32) (l4 : Int32) (s0 : Int32) (h : X8_come_J184 n kont5 σ l1 l4 s0 = some res) : V (wX8 σ) 184 [(0, .ref 0), (1, .int l1), (4, .int l4)] [.int s0] := by
  unfold X8_come_J184 at h
  refine hV.run 1 [] (ws' := wX8 σ) (pc' := 186) (ls' := [(5, .int s0), (0, .ref 0), (1, .int l1), (4, .int l4)]) (st' := []) (ps := []) rfl trivial ?_
  refine hV.pick [1, 2, 3, 0] (ls' := [(0, .ref 0), (1, .int l1), (4, .int l4), (5, .int s0)]) rfl ?_
  exact p_X8_come_J186 hV n res hP kont5 hk5 σ l1 l4 s0 h
def X8_come_J169 (n : Nat) (kont5 : am_M → Int32 → Int32 → Int32 → Option am_M) (σ : am_M) (l1 : Int32) (l4 : Int32) (l5 : Int32) (s0 : Int32) : Option am_M := if s0 = (-1) then (X8_come_J184 n kont5 σ l1 l4 l5) else (X8_come_J184 n kont5 σ l1 l4 s0)
set_option maxRecDepth 100000 in
set_option maxHeartbeats 4000000 in
theorem p_X8_come_J169 {l : Launch} {Post : Option Value → am_W → Prop} {V : am_VT} (hV : am_B l RX8 false 5 (am_cdT' tX8_come) (am_rfL rfX8) none Post 36 V) (n : Nat) (res : am_M) (hP : Post none (wX8 res)) (kont5 : am_M → Int32 → Int32 → Int32 → Option am_M) (hk5 : ∀ (σ : am_M) (l1 : Int32) (l3 : Int32) (l4 : Int32), kont5 σ l1 l3 l4 = some res → V (wX8 σ) 5 [(0, .ref 0), (1, .int l1), (3, .int l3), (4, .int l4)] []) (σ : am_M) (l1 : Int32) (l4 : Int32) (l5 : Int32) (s0 : Int32) (h : X8_come_J169 n kont5 σ l1 l4 l5 s0 = some res) : V (wX8 σ) 169 [(0, .ref 0), (1, .int l1), (4, .int l4), (5, .int l5)] [.int s0] := by
  unfold X8_come_J169 at h
  by_cases c1 : s0 = (-1)
  · rw [if_pos c1] at h
    refine hV.run 6 [0] (ws' := wX8 σ) (pc' := 184) (ls' := [(7, .int s0), (0, .ref 0), (1, .int l1), (4, .int l4), (5, .int l5)]) (st' := [.int l5]) (ps := [s0 = (-1)]) rfl ⟨c1, trivial⟩ ?_
    refine hV.pick [1, 2, 3] (ls' := [(0, .ref 0), (1, .int l1), (4, .int l4)]) rfl ?_
    exact p_X8_come_J184 hV n res hP kont5 hk5 σ l1 l4 l5 h
  · rw [if_neg c1] at h
    refine hV.run 5 [1] (ws' := wX8 σ) (pc' := 184) (ls' := [(7, .int s0), (0, .ref 0), (1, .int l1), (4, .int l4), (5, .int l5)]) (st' := [.int s0]) (ps := [¬ s0 = (-1)]) rfl ⟨c1, trivial⟩ ?_
    refine hV.pick [1, 2, 3] (ls' := [(0, .ref 0), (1, .int l1), (4, .int l4)]) rfl ?_
    exact p_X8_come_J184 hV n res hP kont5 hk5 σ l1 l4 s0 h
def X8_come_J138 (n : Nat) (kont5 : am_M → Int32 → Int32 → Int32 → Option am_M) (σ : am_M) (l1 : Int32) (l3 : Int32) (l4 : Int32) (l5 : Int32) (l6 : Int32) : Option am_M := if l3 < 0 ∨ 80 ≤ l3.toNatClampNeg then none else (if (σ 6 l3.toNatClampNeg) = 10 then (if l6 = 0 then (if l3 < 0 ∨ 80 ≤ l3.toNatClampNeg then none else (X8_come_J169 n kont5 σ l1 l4 l5 (σ 13 l3.toNatClampNeg))) else (if l3 < 0 ∨ 80 ≤ l3.toNatClampNeg then none else (X8_come_J169 n kont5 σ l1 l4 l5 (σ 12 l3.toNatClampNeg)))) else (X8_come_J186 n kont5 σ l1 l4 l5))
set_option maxRecDepth 100000 in
set_option maxHeartbeats 4000000 in
theorem p_X8_come_J138 {l : Launch} {Post : Option Value → am_W → Prop} {V : am_VT} (hV : am_B l RX8 false 5 (am_cdT' tX8_come) (am_rfL rfX8) none Post 36 V) (n : Nat) (res : am_M) (hP : Post none (wX8 res)) (kont5 : am_M → Int32 → Int32 → Int32 → Option am_M) (hk5 : ∀ (σ : am_M) (l1 : Int32) (l3 : Int32) (l4 : Int32), kont5 σ l1 l3 l4 = some res → V (wX8 σ) 5 [(0, .ref 0), (1, .int l1), (3, .int l3), (4, .int l4)] []) (σ : am_M) (l1 : Int32) (l3 : Int32) (l4 : Int32) (l5 : Int32) (l6 : Int32) (h : X8_come_J138 n kont5 σ l1 l3 l4 l5 l6 = some res) : V (wX8 σ) 138 [(0, .ref 0), (1, .int l1), (3, .int l3), (4, .int l4), (5, .int l5), (6, .int l6)] [] := by
  unfold X8_come_J138 at h
  by_cases g1 : l3 < 0 ∨ 80 ≤ l3.toNatClampNeg
  · rw [if_pos g1] at h; cases h
  rw [if_neg g1] at h
  by_cases c2 : (σ 6 l3.toNatClampNeg) = 10
  · rw [if_pos c2] at h
    by_cases c3 : l6 = 0
    · rw [if_pos c3] at h
      by_cases g4 : l3 < 0 ∨ 80 ≤ l3.toNatClampNeg
      · rw [if_pos g4] at h; cases h
      rw [if_neg g4] at h
      refine hV.run 12 [0, 1] (ws' := wX8 σ) (pc' := 169) (ls' := [(0, .ref 0), (1, .int l1), (3, .int l3), (4, .int l4), (5, .int l5), (6, .int l6)]) (st' := [.int (σ 13 l3.toNatClampNeg)]) (ps := [vp_in l3 80, (σ 6 l3.toNatClampNeg) = 10, l6 = 0, vp_in l3 80]) rfl ⟨g1, c2, c3, g4, trivial⟩ ?_
      refine hV.pick [0, 1, 3, 4] (ls' := [(0, .ref 0), (1, .int l1), (4, .int l4), (5, .int l5)]) rfl ?_
      exact p_X8_come_J169 hV n res hP kont5 hk5 σ l1 l4 l5 (σ 13 l3.toNatClampNeg) h
    · rw [if_neg c3] at h
      by_cases g5 : l3 < 0 ∨ 80 ≤ l3.toNatClampNeg
      · rw [if_pos g5] at h; cases h
      rw [if_neg g5] at h
      refine hV.run 13 [0, 0] (ws' := wX8 σ) (pc' := 169) (ls' := [(0, .ref 0), (1, .int l1), (3, .int l3), (4, .int l4), (5, .int l5), (6, .int l6)]) (st' := [.int (σ 12 l3.toNatClampNeg)]) (ps := [vp_in l3 80, (σ 6 l3.toNatClampNeg) = 10, ¬ l6 = 0, vp_in l3 80]) rfl ⟨g1, c2, c3, g5, trivial⟩ ?_
      refine hV.pick [0, 1, 3, 4] (ls' := [(0, .ref 0), (1, .int l1), (4, .int l4), (5, .int l5)]) rfl ?_
      exact p_X8_come_J169 hV n res hP kont5 hk5 σ l1 l4 l5 (σ 12 l3.toNatClampNeg) h
  · rw [if_neg c2] at h
    refine hV.run 6 [1] (ws' := wX8 σ) (pc' := 186) (ls' := [(0, .ref 0), (1, .int l1), (3, .int l3), (4, .int l4), (5, .int l5), (6, .int l6)]) (st' := []) (ps := [vp_in l3 80, ¬ (σ 6 l3.toNatClampNeg) = 10]) rfl ⟨g1, c2, trivial⟩ ?_
    refine hV.pick [0, 1, 3, 4] (ls' := [(0, .ref 0), (1, .int l1), (4, .int l4), (5, .int l5)]) rfl ?_
    exact p_X8_come_J186 hV n res hP kont5 hk5 σ l1 l4 l5 h
def X8_come_J107 (n : Nat) (kont5 : am_M → Int32 → Int32 → Int32 → Option am_M) (σ : am_M) (l1 : Int32) (l3 : Int32) (l4 : Int32) (l5 : Int32) (l6 : Int32) : Option am_M := if l3 < 0 ∨ 80 ≤ l3.toNatClampNeg then none else (if (σ 6 l3.toNatClampNeg) = 9 then (X8_own σ l1 7).bind (fun q3 => (X8_put σ l1 7 ((31 * q3) + l6)).bind (fun q4 => X8_come_J138 n kont5 q4 l1 l3 l4 l5 l6)) else (X8_come_J138 n kont5 σ l1 l3 l4 l5 l6))
set_option maxRecDepth 100000 in
set_option maxHeartbeats 4000000 in
theorem p_X8_come_J107 {l : Launch} {Post : Option Value → am_W → Prop} {V : am_VT} (hV : am_B l RX8 false 5 (am_cdT' tX8_come) (am_rfL rfX8) none Post 36 V) (n : Nat) (res : am_M) (hP : Post none (wX8 res)) (kont5 : am_M → Int32 → Int32 → Int32 → Option am_M) (hk5 : ∀ (σ : am_M) (l1 : Int32) (l3 : Int32) (l4 : Int32), kont5 σ l1 l3 l4 = some res → V (wX8 σ) 5 [(0, .ref 0), (1, .int l1), (3, .int l3), (4, .int l4)] []) (σ : am_M) (l1 : Int32) (l3 : Int32) (l4 : Int32) (l5 : Int32) (l6 : Int32) (h : X8_come_J107 n kont5 σ l1 l3 l4 l5 l6 = some res) : V (wX8 σ) 107 [(0, .ref 0), (1, .int l1), (3, .int l3), (4, .int l4), (5, .int l5), (6, .int l6)] [] := by
  unfold X8_come_J107 at h
  by_cases g1 : l3 < 0 ∨ 80 ≤ l3.toNatClampNeg
  · rw [if_pos g1] at h; cases h
  rw [if_neg g1] at h
  by_cases c2 : (σ 6 l3.toNatClampNeg) = 9
  · rw [if_pos c2] at h
    refine hV.run 13 [0] (ws' := wX8 σ) (pc' := 128) (ls' := [(0, .ref 0), (1, .int l1), (3, .int l3), (4, .int l4), (5, .int l5), (6, .int l6)]) (st' := [.int 7, .int l1, .ref 0, .int 31, .int 7, .int l1, .ref 0]) (ps := [vp_in l3 80, (σ 6 l3.toNatClampNeg) = 9]) rfl ⟨g1, c2, trivial⟩ ?_
    obtain ⟨q3, hq3, h⟩ := am_bind h
    refine hV.cOi (as := [.int l1, .int 7]) (rest := [.int 31, .int 7, .int l1, .ref 0]) (st := [.int 7, .int l1, .ref 0, .int 31, .int 7, .int l1, .ref 0]) (ws2 := wX8 σ) (pc2 := 131) kX8_337 (c_X8_own l σ l1 7 q3 hq3) rfl rfl rfl rfl rfl rfl rfl rfl rfl ?_
    refine hV.run 3 [] (ws' := wX8 σ) (pc' := 135) (ls' := [(0, .ref 0), (1, .int l1), (3, .int l3), (4, .int l4), (5, .int l5), (6, .int l6)]) (st' := [.int ((31 * q3) + l6), .int 7, .int l1, .ref 0]) (ps := []) rfl trivial ?_
    obtain ⟨q4, hq4, h⟩ := am_bind h
    refine hV.cOv (as := [.int l1, .int 7, .int ((31 * q3) + l6)]) (rest := []) (st := [.int ((31 * q3) + l6), .int 7, .int l1, .ref 0]) (ws2 := wX8 q4) (pc2 := 138) kX8_350 (c_X8_put l σ l1 7 ((31 * q3) + l6) q4 hq4) rfl rfl rfl rfl rfl rfl rfl rfl rfl ?_
    exact p_X8_come_J138 hV n res hP kont5 hk5 q4 l1 l3 l4 l5 l6 h
  · rw [if_neg c2] at h
    refine hV.run 6 [1] (ws' := wX8 σ) (pc' := 138) (ls' := [(0, .ref 0), (1, .int l1), (3, .int l3), (4, .int l4), (5, .int l5), (6, .int l6)]) (st' := []) (ps := [vp_in l3 80, ¬ (σ 6 l3.toNatClampNeg) = 9]) rfl ⟨g1, c2, trivial⟩ ?_
    exact p_X8_come_J138 hV n res hP kont5 hk5 σ l1 l3 l4 l5 l6 h
def X8_come_J47 (n : Nat) (kont5 : am_M → Int32 → Int32 → Int32 → Option am_M) (σ : am_M) (l1 : Int32) (l3 : Int32) (s0 : Int32) : Option am_M := if s0 = 0 then (kont5 σ l1 l3 s0) else (X8_following n σ l3).bind (fun q2 => if l3 < 0 ∨ 40 ≤ l3.toNatClampNeg then none else (if (σ 14 l3.toNatClampNeg) = 0 then (X8_asked n σ l1 0).bind (fun q5 => if l3 < 0 ∨ 80 ≤ l3.toNatClampNeg then none else (if ((q5.2 6) l3.toNatClampNeg) = 8 then (if l3 < 0 ∨ 80 ≤ l3.toNatClampNeg then none else (X8_put q5.2 l1 (2 + ((q5.2 9) l3.toNatClampNeg)) q5.1).bind (fun q9 => X8_come_J107 n kont5 q9 l1 l3 s0 q2 q5.1)) else (X8_come_J107 n kont5 q5.2 l1 l3 s0 q2 q5.1))) else (X8_come_J186 n kont5 σ l1 s0 q2)))
set_option maxRecDepth 100000 in
set_option maxHeartbeats 4000000 in
theorem p_X8_come_J47 {l : Launch} {Post : Option Value → am_W → Prop} {V : am_VT} (hV : am_B l RX8 false 5 (am_cdT' tX8_come) (am_rfL rfX8) none Post 36 V) (n : Nat) (res : am_M) (hP : Post none (wX8 res)) (kont5 : am_M → Int32 → Int32 → Int32 → Option am_M) (hk5 : ∀ (σ : am_M) (l1 : Int32) (l3 : Int32) (l4 : Int32), kont5 σ l1 l3 l4 = some res → V (wX8 σ) 5 [(0, .ref 0), (1, .int l1), (3, .int l3), (4, .int l4)] []) (σ : am_M) (l1 : Int32) (l3 : Int32) (s0 : Int32) (h : X8_come_J47 n kont5 σ l1 l3 s0 = some res) : V (wX8 σ) 47 [(0, .ref 0), (1, .int l1), (3, .int l3)] [.int s0] := by
  unfold X8_come_J47 at h
  by_cases c1 : s0 = 0
  · rw [if_pos c1] at h
    refine hV.run 4 [0] (ws' := wX8 σ) (pc' := 5) (ls' := [(4, .int s0), (0, .ref 0), (1, .int l1), (3, .int l3)]) (st' := []) (ps := [s0 = 0]) rfl ⟨c1, trivial⟩ ?_
    refine hV.pick [1, 2, 3, 0] (ls' := [(0, .ref 0), (1, .int l1), (3, .int l3), (4, .int s0)]) rfl ?_
    exact hk5 σ l1 l3 s0 h
  · rw [if_neg c1] at h
    refine hV.run 5 [1] (ws' := wX8 σ) (pc' := 59) (ls' := [(4, .int s0), (0, .ref 0), (1, .int l1), (3, .int l3)]) (st' := [.int l3, .ref 0]) (ps := [¬ s0 = 0]) rfl ⟨c1, trivial⟩ ?_
    obtain ⟨q2, hq2, h⟩ := am_bind h
    refine hV.cOi (as := [.int l3]) (rest := []) (st := [.int l3, .ref 0]) (ws2 := wX8 σ) (pc2 := 62) kX8_354 (c_X8_following l n σ l3 q2 hq2) rfl rfl rfl rfl rfl rfl rfl rfl rfl ?_
    by_cases g3 : l3 < 0 ∨ 40 ≤ l3.toNatClampNeg
    · rw [if_pos g3] at h; cases h
    rw [if_neg g3] at h
    by_cases c4 : (σ 14 l3.toNatClampNeg) = 0
    · rw [if_pos c4] at h
      refine hV.run 9 [0] (ws' := wX8 σ) (pc' := 76) (ls' := [(5, .int q2), (4, .int s0), (0, .ref 0), (1, .int l1), (3, .int l3)]) (st' := [.int 0, .int l1, .ref 0]) (ps := [vp_in l3 40, (σ 14 l3.toNatClampNeg) = 0]) rfl ⟨g3, c4, trivial⟩ ?_
      obtain ⟨q5, hq5, h⟩ := am_bind h
      refine hV.cOi (as := [.int l1, .int 0]) (rest := []) (st := [.int 0, .int l1, .ref 0]) (ws2 := wX8 q5.2) (pc2 := 79) kX8_347 (c_X8_asked l n σ l1 0 q5 hq5) rfl rfl rfl rfl rfl rfl rfl rfl rfl ?_
      by_cases g6 : l3 < 0 ∨ 80 ≤ l3.toNatClampNeg
      · rw [if_pos g6] at h; cases h
      rw [if_neg g6] at h
      by_cases c7 : ((q5.2 6) l3.toNatClampNeg) = 8
      · rw [if_pos c7] at h
        by_cases g8 : l3 < 0 ∨ 80 ≤ l3.toNatClampNeg
        · rw [if_pos g8] at h; cases h
        rw [if_neg g8] at h
        refine hV.run 16 [0] (ws' := wX8 q5.2) (pc' := 104) (ls' := [(6, .int q5.1), (5, .int q2), (4, .int s0), (0, .ref 0), (1, .int l1), (3, .int l3)]) (st' := [.int q5.1, .int (2 + ((q5.2 9) l3.toNatClampNeg)), .int l1, .ref 0]) (ps := [vp_in l3 80, ((q5.2 6) l3.toNatClampNeg) = 8, vp_in l3 80]) rfl ⟨g6, c7, g8, trivial⟩ ?_
        obtain ⟨q9, hq9, h⟩ := am_bind h
        refine hV.cOv (as := [.int l1, .int (2 + ((q5.2 9) l3.toNatClampNeg)), .int q5.1]) (rest := []) (st := [.int q5.1, .int (2 + ((q5.2 9) l3.toNatClampNeg)), .int l1, .ref 0]) (ws2 := wX8 q9) (pc2 := 107) kX8_350 (c_X8_put l q5.2 l1 (2 + ((q5.2 9) l3.toNatClampNeg)) q5.1 q9 hq9) rfl rfl rfl rfl rfl rfl rfl rfl rfl ?_
        refine hV.pick [3, 4, 5, 2, 1, 0] (ls' := [(0, .ref 0), (1, .int l1), (3, .int l3), (4, .int s0), (5, .int q2), (6, .int q5.1)]) rfl ?_
        exact p_X8_come_J107 hV n res hP kont5 hk5 q9 l1 l3 s0 q2 q5.1 h
      · rw [if_neg c7] at h
        refine hV.run 7 [1] (ws' := wX8 q5.2) (pc' := 107) (ls' := [(6, .int q5.1), (5, .int q2), (4, .int s0), (0, .ref 0), (1, .int l1), (3, .int l3)]) (st' := []) (ps := [vp_in l3 80, ¬ ((q5.2 6) l3.toNatClampNeg) = 8]) rfl ⟨g6, c7, trivial⟩ ?_
        refine hV.pick [3, 4, 5, 2, 1, 0] (ls' := [(0, .ref 0), (1, .int l1), (3, .int l3), (4, .int s0), (5, .int q2), (6, .int q5.1)]) rfl ?_
        exact p_X8_come_J107 hV n res hP kont5 hk5 q5.2 l1 l3 s0 q2 q5.1 h
    · rw [if_neg c4] at h
      refine hV.run 6 [1] (ws' := wX8 σ) (pc' := 186) (ls' := [(5, .int q2), (4, .int s0), (0, .ref 0), (1, .int l1), (3, .int l3)]) (st' := []) (ps := [vp_in l3 40, ¬ (σ 14 l3.toNatClampNeg) = 0]) rfl ⟨g3, c4, trivial⟩ ?_
      refine hV.pick [2, 3, 1, 0] (ls' := [(0, .ref 0), (1, .int l1), (4, .int s0), (5, .int q2)]) rfl ?_
      exact p_X8_come_J186 hV n res hP kont5 hk5 σ l1 s0 q2 h
def X8_come_J46 (n : Nat) (kont5 : am_M → Int32 → Int32 → Int32 → Option am_M) (σ : am_M) (l1 : Int32) (l3 : Int32) : Option am_M := X8_come_J47 n kont5 σ l1 l3 0
set_option maxRecDepth 100000 in
set_option maxHeartbeats 4000000 in
theorem p_X8_come_J46 {l : Launch} {Post : Option Value → am_W → Prop} {V : am_VT} (hV : am_B l RX8 false 5 (am_cdT' tX8_come) (am_rfL rfX8) none Post 36 V) (n : Nat) (res : am_M) (hP : Post none (wX8 res)) (kont5 : am_M → Int32 → Int32 → Int32 → Option am_M) (hk5 : ∀ (σ : am_M) (l1 : Int32) (l3 : Int32) (l4 : Int32), kont5 σ l1 l3 l4 = some res → V (wX8 σ) 5 [(0, .ref 0), (1, .int l1), (3, .int l3), (4, .int l4)] []) (σ : am_M) (l1 : Int32) (l3 : Int32) (h : X8_come_J46 n kont5 σ l1 l3 = some res) : V (wX8 σ) 46 [(0, .ref 0), (1, .int l1), (3, .int l3)] [] := by
  unfold X8_come_J46 at h
  refine hV.run 1 [] (ws' := wX8 σ) (pc' := 47) (ls' := [(0, .ref 0), (1, .int l1), (3, .int l3)]) (st' := [.int 0]) (ps := []) rfl trivial ?_
  exact p_X8_come_J47 hV n res hP kont5 hk5 σ l1 l3 0 h
def X8_come_J42 (n : Nat) (kont5 : am_M → Int32 → Int32 → Int32 → Option am_M) (σ : am_M) (l1 : Int32) (l3 : Int32) : Option am_M := X8_come_J47 n kont5 σ l1 l3 1
set_option maxRecDepth 100000 in
set_option maxHeartbeats 4000000 in
theorem p_X8_come_J42 {l : Launch} {Post : Option Value → am_W → Prop} {V : am_VT} (hV : am_B l RX8 false 5 (am_cdT' tX8_come) (am_rfL rfX8) none Post 36 V) (n : Nat) (res : am_M) (hP : Post none (wX8 res)) (kont5 : am_M → Int32 → Int32 → Int32 → Option am_M) (hk5 : ∀ (σ : am_M) (l1 : Int32) (l3 : Int32) (l4 : Int32), kont5 σ l1 l3 l4 = some res → V (wX8 σ) 5 [(0, .ref 0), (1, .int l1), (3, .int l3), (4, .int l4)] []) (σ : am_M) (l1 : Int32) (l3 : Int32) (h : X8_come_J42 n kont5 σ l1 l3 = some res) : V (wX8 σ) 42 [(0, .ref 0), (1, .int l1), (3, .int l3)] [] := by
  unfold X8_come_J42 at h
  refine hV.run 2 [] (ws' := wX8 σ) (pc' := 47) (ls' := [(0, .ref 0), (1, .int l1), (3, .int l3)]) (st' := [.int 1]) (ps := []) rfl trivial ?_
  exact p_X8_come_J47 hV n res hP kont5 hk5 σ l1 l3 1 h
def X8_come_B5 (n : Nat) (kont5 : am_M → Int32 → Int32 → Int32 → Option am_M) (σ : am_M) (l1 : Int32) (l3 : Int32) (l4 : Int32) : Option am_M := if l4 = 0 then (if l3 = (-1) then (some σ) else (if l3 < 0 ∨ 80 ≤ l3.toNatClampNeg then none else (if 3 < (σ 6 l3.toNatClampNeg) then (some σ) else (X8_hasOther n σ l1).bind (fun q5 => if q5.1 = true then (some q5.2) else (X8_put q5.2 l1 1 1).bind (fun q7 => some q7))))) else (X8_put σ l1 0 l3).bind (fun q8 => if l3 = (-1) then (X8_come_J46 n kont5 q8 l1 l3) else (if l3 < 0 ∨ 40 ≤ l3.toNatClampNeg then none else (if (q8 14 l3.toNatClampNeg) = 0 then (if l3 < 0 ∨ 80 ≤ l3.toNatClampNeg then none else (if (q8 6 l3.toNatClampNeg) < 8 then (X8_come_J46 n kont5 q8 l1 l3) else (X8_come_J42 n kont5 q8 l1 l3))) else (X8_come_J42 n kont5 q8 l1 l3))))
def X8_come_L5 (n : Nat) : Nat → am_M → Int32 → Int32 → Int32 → Option am_M
 | 0 => fun _ _ _ _ => none
 | k + 1 => fun σ l1 l3 l4 => X8_come_B5 n (X8_come_L5 n k) σ l1 l3 l4
set_option maxRecDepth 100000 in
set_option maxHeartbeats 4000000 in
theorem p_X8_come_B5 {l : Launch} {Post : Option Value → am_W → Prop} {V : am_VT} (hV : am_B l RX8 false 5 (am_cdT' tX8_come) (am_rfL rfX8) none Post 36 V) (n : Nat) (res : am_M) (hP : Post none (wX8 res)) (kont5 : am_M → Int32 → Int32 → Int32 → Option am_M) (hk5 : ∀ (σ : am_M) (l1 : Int32) (l3 : Int32) (l4 : Int32), kont5 σ l1 l3 l4 = some res → V (wX8 σ) 5 [(0, .ref 0), (1, .int l1), (3, .int l3), (4, .int l4)] []) (σ : am_M) (l1 : Int32) (l3 : Int32) (l4 : Int32) (h : X8_come_B5 n kont5 σ l1 l3 l4 = some res) : V (wX8 σ) 5 [(0, .ref 0), (1, .int l1), (3, .int l3), (4, .int l4)] [] := by
  unfold X8_come_B5 at h
  by_cases c1 : l4 = 0
  · rw [if_pos c1] at h
    by_cases c2 : l3 = (-1)
    · rw [if_pos c2] at h
      refine hV.run 5 [1, 1] (ws' := wX8 σ) (pc' := 222) (ls' := [(0, .ref 0), (1, .int l1), (3, .int l3), (4, .int l4)]) (st' := []) (ps := [l4 = 0, l3 = (-1)]) rfl ⟨c1, c2, trivial⟩ ?_
      cases h
      exact hV.rv rfl rfl rfl hP
    · rw [if_neg c2] at h
      by_cases g3 : l3 < 0 ∨ 80 ≤ l3.toNatClampNeg
      · rw [if_pos g3] at h; cases h
      rw [if_neg g3] at h
      by_cases c4 : 3 < (σ 6 l3.toNatClampNeg)
      · rw [if_pos c4] at h
        refine hV.run 11 [1, 0, 1] (ws' := wX8 σ) (pc' := 222) (ls' := [(0, .ref 0), (1, .int l1), (3, .int l3), (4, .int l4)]) (st' := []) (ps := [l4 = 0, ¬ l3 = (-1), vp_in l3 80, 3 < (σ 6 l3.toNatClampNeg)]) rfl ⟨c1, c2, g3, c4, trivial⟩ ?_
        cases h
        exact hV.rv rfl rfl rfl hP
      · rw [if_neg c4] at h
        refine hV.run 13 [1, 0, 0] (ws' := wX8 σ) (pc' := 209) (ls' := [(0, .ref 0), (1, .int l1), (3, .int l3), (4, .int l4)]) (st' := [.int l1, .ref 0]) (ps := [l4 = 0, ¬ l3 = (-1), vp_in l3 80, ¬ 3 < (σ 6 l3.toNatClampNeg)]) rfl ⟨c1, c2, g3, c4, trivial⟩ ?_
        obtain ⟨q5, hq5, h⟩ := am_bind h
        refine hV.cOi (as := [.int l1]) (rest := []) (st := [.int l1, .ref 0]) (ws2 := wX8 q5.2) (pc2 := 212) kX8_357 (c_X8_hasOther l n σ l1 q5 hq5) rfl rfl rfl rfl rfl rfl rfl rfl rfl ?_
        by_cases c6 : q5.1 = true
        · rw [if_pos c6] at h
          refine hV.run 1 [1] (ws' := wX8 q5.2) (pc' := 222) (ls' := [(0, .ref 0), (1, .int l1), (3, .int l3), (4, .int l4)]) (st' := []) (ps := [¬ (b2i q5.1) = 0]) rfl ⟨(b2i_t c6), trivial⟩ ?_
          cases h
          exact hV.rv rfl rfl rfl hP
        · rw [if_neg c6] at h
          refine hV.run 5 [0] (ws' := wX8 q5.2) (pc' := 219) (ls' := [(0, .ref 0), (1, .int l1), (3, .int l3), (4, .int l4)]) (st' := [.int 1, .int 1, .int l1, .ref 0]) (ps := [(b2i q5.1) = 0]) rfl ⟨(b2i_f c6), trivial⟩ ?_
          obtain ⟨q7, hq7, h⟩ := am_bind h
          refine hV.cOv (as := [.int l1, .int 1, .int 1]) (rest := []) (st := [.int 1, .int 1, .int l1, .ref 0]) (ws2 := wX8 q7) (pc2 := 222) kX8_350 (c_X8_put l q5.2 l1 1 1 q7 hq7) rfl rfl rfl rfl rfl rfl rfl rfl rfl ?_
          cases h
          exact hV.rv rfl rfl rfl hP
  · rw [if_neg c1] at h
    refine hV.run 6 [0] (ws' := wX8 σ) (pc' := 14) (ls' := [(0, .ref 0), (1, .int l1), (3, .int l3), (4, .int l4)]) (st' := [.int l3, .int 0, .int l1, .ref 0]) (ps := [¬ l4 = 0]) rfl ⟨c1, trivial⟩ ?_
    obtain ⟨q8, hq8, h⟩ := am_bind h
    refine hV.cOv (as := [.int l1, .int 0, .int l3]) (rest := []) (st := [.int l3, .int 0, .int l1, .ref 0]) (ws2 := wX8 q8) (pc2 := 17) kX8_350 (c_X8_put l σ l1 0 l3 q8 hq8) rfl rfl rfl rfl rfl rfl rfl rfl rfl ?_
    by_cases c9 : l3 = (-1)
    · rw [if_pos c9] at h
      refine hV.run 3 [1] (ws' := wX8 q8) (pc' := 46) (ls' := [(0, .ref 0), (1, .int l1), (3, .int l3), (4, .int l4)]) (st' := []) (ps := [l3 = (-1)]) rfl ⟨c9, trivial⟩ ?_
      refine hV.pick [0, 1, 2] (ls' := [(0, .ref 0), (1, .int l1), (3, .int l3)]) rfl ?_
      exact p_X8_come_J46 hV n res hP kont5 hk5 q8 l1 l3 h
    · rw [if_neg c9] at h
      by_cases g10 : l3 < 0 ∨ 40 ≤ l3.toNatClampNeg
      · rw [if_pos g10] at h; cases h
      rw [if_neg g10] at h
      by_cases c11 : (q8 14 l3.toNatClampNeg) = 0
      · rw [if_pos c11] at h
        by_cases g12 : l3 < 0 ∨ 80 ≤ l3.toNatClampNeg
        · rw [if_pos g12] at h; cases h
        rw [if_neg g12] at h
        by_cases c13 : (q8 6 l3.toNatClampNeg) < 8
        · rw [if_pos c13] at h
          refine hV.run 14 [0, 0, 1] (ws' := wX8 q8) (pc' := 46) (ls' := [(0, .ref 0), (1, .int l1), (3, .int l3), (4, .int l4)]) (st' := []) (ps := [¬ l3 = (-1), vp_in l3 40, (q8 14 l3.toNatClampNeg) = 0, vp_in l3 80, (q8 6 l3.toNatClampNeg) < 8]) rfl ⟨c9, g10, c11, g12, c13, trivial⟩ ?_
          refine hV.pick [0, 1, 2] (ls' := [(0, .ref 0), (1, .int l1), (3, .int l3)]) rfl ?_
          exact p_X8_come_J46 hV n res hP kont5 hk5 q8 l1 l3 h
        · rw [if_neg c13] at h
          refine hV.run 14 [0, 0, 0] (ws' := wX8 q8) (pc' := 42) (ls' := [(0, .ref 0), (1, .int l1), (3, .int l3), (4, .int l4)]) (st' := []) (ps := [¬ l3 = (-1), vp_in l3 40, (q8 14 l3.toNatClampNeg) = 0, vp_in l3 80, ¬ (q8 6 l3.toNatClampNeg) < 8]) rfl ⟨c9, g10, c11, g12, c13, trivial⟩ ?_
          refine hV.pick [0, 1, 2] (ls' := [(0, .ref 0), (1, .int l1), (3, .int l3)]) rfl ?_
          exact p_X8_come_J42 hV n res hP kont5 hk5 q8 l1 l3 h
      · rw [if_neg c11] at h
        refine hV.run 8 [0, 1] (ws' := wX8 q8) (pc' := 42) (ls' := [(0, .ref 0), (1, .int l1), (3, .int l3), (4, .int l4)]) (st' := []) (ps := [¬ l3 = (-1), vp_in l3 40, ¬ (q8 14 l3.toNatClampNeg) = 0]) rfl ⟨c9, g10, c11, trivial⟩ ?_
        refine hV.pick [0, 1, 2] (ls' := [(0, .ref 0), (1, .int l1), (3, .int l3)]) rfl ?_
        exact p_X8_come_J42 hV n res hP kont5 hk5 q8 l1 l3 h
theorem p_X8_come_L5 {l : Launch} {Post : Option Value → am_W → Prop} {V : am_VT} (hV : am_B l RX8 false 5 (am_cdT' tX8_come) (am_rfL rfX8) none Post 36 V) (n : Nat) (res : am_M) (hP : Post none (wX8 res)) : ∀ (k : Nat) (σ : am_M) (l1 : Int32) (l3 : Int32) (l4 : Int32) (h : X8_come_L5 n k σ l1 l3 l4 = some res), V (wX8 σ) 5 [(0, .ref 0), (1, .int l1), (3, .int l3), (4, .int l4)] [] := by
  intro k
  induction k with
  | zero => intro σ l1 l3 l4 h; cases h
  | succ k ih => intro σ l1 l3 l4 h; exact p_X8_come_B5 hV n res hP _ ih σ l1 l3 l4 h
def X8_come (n : Nat) (σ : am_M) (a1 : Int32) (a2 : Int32) : Option am_M := X8_come_L5 n n σ a1 a2 1
set_option maxRecDepth 100000 in
set_option maxHeartbeats 4000000 in
theorem c_X8_come (l : Launch) (n : Nat) (σ : am_M) (a1 : Int32) (a2 : Int32) (res : am_M) (h : X8_come n σ a1 a2 = some res) : am_Con l yX8_come cX8_come 8 none 5 [.ref 0, .int a1, .int a2] (wX8 σ) (fun (r : Option Value) (w : am_W) => r = none ∧ w = (wX8 res)) := by
  refine am_metn (n0 := 36) (own := RX8) (cd := am_cdT' tX8_come) (rf := am_rfL rfX8) (ini := false) rfl (by decide +kernel) rfl (by decide) dX8_come rfX8_ok (Nat.le_of_ble_eq_true rfl) ?_
  intro V hV
  have hP : (fun (r : Option Value) (w : am_W) => r = none ∧ w = (wX8 res)) none (wX8 res) := ⟨rfl, rfl⟩
  show V (wX8 σ) 0 [(0, .ref 0), (1, .int a1), (2, .int a2)] []
  unfold X8_come at h
  refine hV.run 4 [] (ws' := wX8 σ) (pc' := 5) (ls' := [(4, .int 1), (3, .int a2), (0, .ref 0), (1, .int a1), (2, .int a2)]) (st' := []) (ps := []) rfl trivial ?_
  refine hV.pick [2, 3, 1, 0] (ls' := [(0, .ref 0), (1, .int a1), (3, .int a2), (4, .int 1)]) rfl ?_
  exact p_X8_come_L5 hV n res hP n σ a1 a2 1 h

def X8_goOn (n : Nat) (σ : am_M) (a1 : Int32) : Option am_M := (X8_own σ a1 0).bind (fun q1 => (X8_following n σ q1).bind (fun q2 => (X8_come n σ a1 q2).bind (fun q3 => some q3)))
set_option maxRecDepth 100000 in
set_option maxHeartbeats 4000000 in
theorem c_X8_goOn (l : Launch) (n : Nat) (σ : am_M) (a1 : Int32) (res : am_M) (h : X8_goOn n σ a1 = some res) : am_Con l yX8_goOn cX8_goOn 3 none 6 [.ref 0, .int a1] (wX8 σ) (fun (r : Option Value) (w : am_W) => r = none ∧ w = (wX8 res)) := by
  refine am_metn (n0 := 36) (own := RX8) (cd := am_cdT' tX8_goOn) (rf := am_rfL rfX8) (ini := false) rfl (by decide +kernel) rfl (by decide) dX8_goOn rfX8_ok (Nat.le_of_ble_eq_true rfl) ?_
  intro V hV
  have hP : (fun (r : Option Value) (w : am_W) => r = none ∧ w = (wX8 res)) none (wX8 res) := ⟨rfl, rfl⟩
  show V (wX8 σ) 0 [(0, .ref 0), (1, .int a1)] []
  unfold X8_goOn at h
  refine hV.run 4 [] (ws' := wX8 σ) (pc' := 4) (ls' := [(0, .ref 0), (1, .int a1)]) (st' := [.int 0, .int a1, .ref 0, .ref 0]) (ps := []) rfl trivial ?_
  obtain ⟨q1, hq1, h⟩ := am_bind h
  refine hV.cOi (as := [.int a1, .int 0]) (rest := [.ref 0]) (st := [.int 0, .int a1, .ref 0, .ref 0]) (ws2 := wX8 σ) (pc2 := 7) kX8_337 (c_X8_own l σ a1 0 q1 hq1) rfl rfl rfl rfl rfl rfl rfl rfl rfl ?_
  obtain ⟨q2, hq2, h⟩ := am_bind h
  refine hV.cOi (as := [.int q1]) (rest := []) (st := [.int q1, .ref 0]) (ws2 := wX8 σ) (pc2 := 10) kX8_354 (c_X8_following l n σ q1 q2 hq2) rfl rfl rfl rfl rfl rfl rfl rfl rfl ?_
  refine hV.run 4 [] (ws' := wX8 σ) (pc' := 14) (ls' := [(2, .int q2), (0, .ref 0), (1, .int a1)]) (st' := [.int q2, .int a1, .ref 0]) (ps := []) rfl trivial ?_
  obtain ⟨q3, hq3, h⟩ := am_bind h
  refine hV.cOv (as := [.int a1, .int q2]) (rest := []) (st := [.int q2, .int a1, .ref 0]) (ws2 := wX8 q3) (pc2 := 17) kX8_360 (c_X8_come l n σ a1 q2 q3 hq3) rfl rfl rfl rfl rfl rfl rfl rfl rfl ?_
  cases h
  exact hV.rv rfl rfl rfl hP

def X8_begin_J48 (n : Nat) (kont24 : am_M → Int32 → Option am_M) (σ : am_M) (l1 : Int32) (s0 : Int32) (s1 : Int32) : Option am_M := (X8_come n σ s1 s0).bind (fun q1 => kont24 q1 (l1 + 1))
set_option maxRecDepth 100000 in
set_option maxHeartbeats 4000000 in
theorem p_X8_begin_J48 {l : Launch} {Post : Option Value → am_W → Prop} {V : am_VT} (hV : am_B l RX8 false 6 (am_cdT' tX8_begin) (am_rfL rfX8) none Post 36 V) (n : Nat) (res : am_M) (hP : Post none (wX8 res)) (kont24 : am_M → Int32 → Option am_M) (hk24 : ∀ (σ : am_M) (l1 : Int32), kont24 σ l1 = some res → V (wX8 σ) 24 [(0, .ref 0), (1, .int l1)] []) (σ : am_M) (l1 : Int32) (s0 : Int32) (s1 : Int32) (h : X8_begin_J48 n kont24 σ l1 s0 s1 = some res) : V (wX8 σ) 48 [(0, .ref 0), (1, .int l1)] [.int s0, .int s1, .ref 0] := by
  unfold X8_begin_J48 at h
  obtain ⟨q1, hq1, h⟩ := am_bind h
  refine hV.cOv (as := [.int s1, .int s0]) (rest := []) (st := [.int s0, .int s1, .ref 0]) (ws2 := wX8 q1) (pc2 := 51) kX8_360 (c_X8_come l n σ s1 s0 q1 hq1) rfl rfl rfl rfl rfl rfl rfl rfl rfl ?_
  refine hV.run 2 [] (ws' := wX8 q1) (pc' := 24) (ls' := [(1, .int (l1 + 1)), (0, .ref 0)]) (st' := []) (ps := []) rfl trivial ?_
  refine hV.pick [1, 0] (ls' := [(0, .ref 0), (1, .int (l1 + 1))]) rfl ?_
  exact hk24 q1 (l1 + 1) h
def X8_begin_B24 (n : Nat) (kont24 : am_M → Int32 → Option am_M) (σ : am_M) (l1 : Int32) : Option am_M := if (σ 0 3) ≤ l1 then (some σ) else (if (σ 4 (0 : Int32).toNatClampNeg) = 0 then (X8_begin_J48 n kont24 σ l1 (-1) l1) else (X8_begin_J48 n kont24 σ l1 0 l1))
def X8_begin_L24 (n : Nat) : Nat → am_M → Int32 → Option am_M
 | 0 => fun _ _ => none
 | k + 1 => fun σ l1 => X8_begin_B24 n (X8_begin_L24 n k) σ l1
set_option maxRecDepth 100000 in
set_option maxHeartbeats 4000000 in
theorem p_X8_begin_B24 {l : Launch} {Post : Option Value → am_W → Prop} {V : am_VT} (hV : am_B l RX8 false 6 (am_cdT' tX8_begin) (am_rfL rfX8) none Post 36 V) (n : Nat) (res : am_M) (hP : Post none (wX8 res)) (kont24 : am_M → Int32 → Option am_M) (hk24 : ∀ (σ : am_M) (l1 : Int32), kont24 σ l1 = some res → V (wX8 σ) 24 [(0, .ref 0), (1, .int l1)] []) (σ : am_M) (l1 : Int32) (h : X8_begin_B24 n kont24 σ l1 = some res) : V (wX8 σ) 24 [(0, .ref 0), (1, .int l1)] [] := by
  unfold X8_begin_B24 at h
  by_cases c1 : (σ 0 3) ≤ l1
  · rw [if_pos c1] at h
    refine hV.run 4 [1] (ws' := wX8 σ) (pc' := 57) (ls' := [(0, .ref 0), (1, .int l1)]) (st' := []) (ps := [(σ 0 3) ≤ l1]) rfl ⟨c1, trivial⟩ ?_
    cases h
    exact hV.rv rfl rfl rfl hP
  · rw [if_neg c1] at h
    by_cases c2 : (σ 4 (0 : Int32).toNatClampNeg) = 0
    · rw [if_pos c2] at h
      refine hV.run 13 [0, 0] (ws' := wX8 σ) (pc' := 48) (ls' := [(0, .ref 0), (1, .int l1)]) (st' := [.int (-1), .int l1, .ref 0]) (ps := [¬ (σ 0 3) ≤ l1, vp_in (0 : Int32) 2, (σ 4 (0 : Int32).toNatClampNeg) = 0]) rfl ⟨c1, (am_inc (by decide)), c2, trivial⟩ ?_
      exact p_X8_begin_J48 hV n res hP kont24 hk24 σ l1 (-1) l1 h
    · rw [if_neg c2] at h
      refine hV.run 12 [0, 1] (ws' := wX8 σ) (pc' := 48) (ls' := [(0, .ref 0), (1, .int l1)]) (st' := [.int 0, .int l1, .ref 0]) (ps := [¬ (σ 0 3) ≤ l1, vp_in (0 : Int32) 2, ¬ (σ 4 (0 : Int32).toNatClampNeg) = 0]) rfl ⟨c1, (am_inc (by decide)), c2, trivial⟩ ?_
      exact p_X8_begin_J48 hV n res hP kont24 hk24 σ l1 0 l1 h
theorem p_X8_begin_L24 {l : Launch} {Post : Option Value → am_W → Prop} {V : am_VT} (hV : am_B l RX8 false 6 (am_cdT' tX8_begin) (am_rfL rfX8) none Post 36 V) (n : Nat) (res : am_M) (hP : Post none (wX8 res)) : ∀ (k : Nat) (σ : am_M) (l1 : Int32) (h : X8_begin_L24 n k σ l1 = some res), V (wX8 σ) 24 [(0, .ref 0), (1, .int l1)] [] := by
  intro k
  induction k with
  | zero => intro σ l1 h; cases h
  | succ k ih => intro σ l1 h; exact p_X8_begin_B24 hV n res hP _ ih σ l1 h
def X8_begin_B2 (n : Nat) (kont2 : am_M → Int32 → Option am_M) (σ : am_M) (l1 : Int32) : Option am_M := if 1985 ≤ l1 then (X8_begin_L24 n n σ 0) else (if l1 < 0 ∨ 1985 ≤ l1.toNatClampNeg then none else (kont2 (sC σ 15 (upd (σ 15) l1.toNatClampNeg 0)) (l1 + 1)))
def X8_begin_L2 (n : Nat) : Nat → am_M → Int32 → Option am_M
 | 0 => fun _ _ => none
 | k + 1 => fun σ l1 => X8_begin_B2 n (X8_begin_L2 n k) σ l1
set_option maxRecDepth 100000 in
set_option maxHeartbeats 4000000 in
theorem p_X8_begin_B2 {l : Launch} {Post : Option Value → am_W → Prop} {V : am_VT} (hV : am_B l RX8 false 6 (am_cdT' tX8_begin) (am_rfL rfX8) none Post 36 V) (n : Nat) (res : am_M) (hP : Post none (wX8 res)) (kont2 : am_M → Int32 → Option am_M) (hk2 : ∀ (σ : am_M) (l1 : Int32), kont2 σ l1 = some res → V (wX8 σ) 2 [(0, .ref 0), (1, .int l1)] []) (σ : am_M) (l1 : Int32) (h : X8_begin_B2 n kont2 σ l1 = some res) : V (wX8 σ) 2 [(0, .ref 0), (1, .int l1)] [] := by
  unfold X8_begin_B2 at h
  by_cases c1 : 1985 ≤ l1
  · rw [if_pos c1] at h
    refine hV.run 5 [1] (ws' := wX8 σ) (pc' := 24) (ls' := [(1, .int 0), (0, .ref 0)]) (st' := []) (ps := [1985 ≤ l1]) rfl ⟨c1, trivial⟩ ?_
    refine hV.pick [1, 0] (ls' := [(0, .ref 0), (1, .int 0)]) rfl ?_
    exact p_X8_begin_L24 hV n res hP n σ 0 h
  · rw [if_neg c1] at h
    by_cases g2 : l1 < 0 ∨ 1985 ≤ l1.toNatClampNeg
    · rw [if_pos g2] at h; cases h
    rw [if_neg g2] at h
    refine hV.run 10 [0] (ws' := wX8 (sC σ 15 (upd (σ 15) l1.toNatClampNeg 0))) (pc' := 2) (ls' := [(1, .int (l1 + 1)), (0, .ref 0)]) (st' := []) (ps := [¬ 1985 ≤ l1, vp_in l1 1985]) rfl ⟨c1, g2, trivial⟩ ?_
    refine hV.pick [1, 0] (ls' := [(0, .ref 0), (1, .int (l1 + 1))]) rfl ?_
    exact hk2 (sC σ 15 (upd (σ 15) l1.toNatClampNeg 0)) (l1 + 1) h
theorem p_X8_begin_L2 {l : Launch} {Post : Option Value → am_W → Prop} {V : am_VT} (hV : am_B l RX8 false 6 (am_cdT' tX8_begin) (am_rfL rfX8) none Post 36 V) (n : Nat) (res : am_M) (hP : Post none (wX8 res)) : ∀ (k : Nat) (σ : am_M) (l1 : Int32) (h : X8_begin_L2 n k σ l1 = some res), V (wX8 σ) 2 [(0, .ref 0), (1, .int l1)] [] := by
  intro k
  induction k with
  | zero => intro σ l1 h; cases h
  | succ k ih => intro σ l1 h; exact p_X8_begin_B2 hV n res hP _ ih σ l1 h
def X8_begin (n : Nat) (σ : am_M) : Option am_M := X8_begin_L2 n n σ 0
set_option maxRecDepth 100000 in
set_option maxHeartbeats 4000000 in
theorem c_X8_begin (l : Launch) (n : Nat) (σ : am_M) (res : am_M) (h : X8_begin n σ = some res) : am_Con l yX8_begin cX8_begin 2 none 6 [.ref 0] (wX8 σ) (fun (r : Option Value) (w : am_W) => r = none ∧ w = (wX8 res)) := by
  refine am_metn (n0 := 36) (own := RX8) (cd := am_cdT' tX8_begin) (rf := am_rfL rfX8) (ini := false) rfl (by decide +kernel) rfl (by decide) dX8_begin rfX8_ok (Nat.le_of_ble_eq_true rfl) ?_
  intro V hV
  have hP : (fun (r : Option Value) (w : am_W) => r = none ∧ w = (wX8 res)) none (wX8 res) := ⟨rfl, rfl⟩
  show V (wX8 σ) 0 [(0, .ref 0)] []
  unfold X8_begin at h
  refine hV.run 2 [] (ws' := wX8 σ) (pc' := 2) (ls' := [(1, .int 0), (0, .ref 0)]) (st' := []) (ps := []) rfl trivial ?_
  refine hV.pick [1, 0] (ls' := [(0, .ref 0), (1, .int 0)]) rfl ?_
  exact p_X8_begin_L2 hV n res hP n σ 0 h

