def X8_used (σ : am_M) (a1 : Int32) : Option Int32 := if ((1985 * a1) + 64) < 0 ∨ 397000 ≤ ((1985 * a1) + 64).toNatClampNeg then none else (some (65 + (6 * (σ 21 ((1985 * a1) + 64).toNatClampNeg))))
set_option maxRecDepth 100000 in
set_option maxHeartbeats 4000000 in
theorem c_X8_used (l : Launch) (σ : am_M) (a1 : Int32) (res : Int32) (h : X8_used σ a1 = some res) : am_Con l yX8_used cX8_used 2 (some .int) 1 [.ref 0, .int a1] (wX8 σ) (fun (r : Option Value) (w : am_W) => r = (some (.int res)) ∧ w = (wX8 σ)) := by
  refine am_metn (n0 := 36) (own := RX8) (cd := am_cdT' tX8_used) (rf := am_rfL rfX8) (ini := false) rfl (by decide +kernel) rfl (by decide) dX8_used rfX8_ok (Nat.le_of_ble_eq_true rfl) ?_
  intro V hV
  have hP : (fun (r : Option Value) (w : am_W) => r = (some (.int res)) ∧ w = (wX8 σ)) (some (.int res)) (wX8 σ) := ⟨rfl, rfl⟩
  show V (wX8 σ) 0 [(0, .ref 0), (1, .int a1)] []
  unfold X8_used at h
  by_cases g1 : ((1985 * a1) + 64) < 0 ∨ 397000 ≤ ((1985 * a1) + 64).toNatClampNeg
  · rw [if_pos g1] at h; cases h
  rw [if_neg g1] at h
  refine hV.run 12 [] (ws' := wX8 σ) (pc' := 19) (ls' := [(0, .ref 0), (1, .int a1)]) (st' := [.int (65 + (6 * (σ 21 ((1985 * a1) + 64).toNatClampNeg)))]) (ps := [vp_in ((1985 * a1) + 64) 397000]) rfl ⟨g1, trivial⟩ ?_
  cases h
  exact hV.ri rfl rfl rfl hP

def X8_keep_B154 (n : Nat) (kont154 : am_M → Int32 → Int32 → Int32 → Option am_M) (σ : am_M) (l1 : Int32) (l2 : Int32) (l3 : Int32) : Option am_M := if l1 ≤ l3 then (if (σ 0 46) < 0 ∨ 201 ≤ (σ 0 46).toNatClampNeg then none else (some (sC (sC σ 0 (am_u (σ 0) 46 ((σ 0 46) + 1))) 22 (upd (σ 22) (σ 0 46).toNatClampNeg l2)))) else (if l3 < 0 ∨ 1985 ≤ l3.toNatClampNeg then none else (if ((1985 * (σ 0 46)) + l3) < 0 ∨ 397000 ≤ ((1985 * (σ 0 46)) + l3).toNatClampNeg then none else (kont154 (sC σ 21 (upd (σ 21) ((1985 * (σ 0 46)) + l3).toNatClampNeg (σ 15 l3.toNatClampNeg))) l1 l2 (l3 + 1))))
def X8_keep_L154 (n : Nat) : Nat → am_M → Int32 → Int32 → Int32 → Option am_M
 | 0 => fun _ _ _ _ => none
 | k + 1 => fun σ l1 l2 l3 => X8_keep_B154 n (X8_keep_L154 n k) σ l1 l2 l3
set_option maxRecDepth 100000 in
set_option maxHeartbeats 4000000 in
theorem p_X8_keep_B154 {l : Launch} {Post : Option Value → am_W → Prop} {V : am_VT} (hV : am_B l RX8 false 2 (am_cdT' tX8_keep) (am_rfL rfX8) none Post 36 V) (n : Nat) (res : am_M) (hP : Post none (wX8 res)) (kont154 : am_M → Int32 → Int32 → Int32 → Option am_M) (hk154 : ∀ (σ : am_M) (l1 : Int32) (l2 : Int32) (l3 : Int32), kont154 σ l1 l2 l3 = some res → V (wX8 σ) 154 [(0, .ref 0), (1, .int l1), (2, .int l2), (3, .int l3)] []) (σ : am_M) (l1 : Int32) (l2 : Int32) (l3 : Int32) (h : X8_keep_B154 n kont154 σ l1 l2 l3 = some res) : V (wX8 σ) 154 [(0, .ref 0), (1, .int l1), (2, .int l2), (3, .int l3)] [] := by
  unfold X8_keep_B154 at h
  by_cases c1 : l1 ≤ l3
  · rw [if_pos c1] at h
    by_cases g2 : (σ 0 46) < 0 ∨ 201 ≤ (σ 0 46).toNatClampNeg
    · rw [if_pos g2] at h; cases h
    rw [if_neg g2] at h
    refine hV.run 15 [1] (ws' := wX8 (sC (sC σ 0 (am_u (σ 0) 46 ((σ 0 46) + 1))) 22 (upd (σ 22) (σ 0 46).toNatClampNeg l2))) (pc' := 206) (ls' := [(0, .ref 0), (1, .int l1), (2, .int l2), (3, .int l3)]) (st' := []) (ps := [l1 ≤ l3, vp_in (σ 0 46) 201]) rfl ⟨c1, g2, trivial⟩ ?_
    cases h
    exact hV.rv rfl rfl rfl hP
  · rw [if_neg c1] at h
    by_cases g3 : l3 < 0 ∨ 1985 ≤ l3.toNatClampNeg
    · rw [if_pos g3] at h; cases h
    rw [if_neg g3] at h
    by_cases g4 : ((1985 * (σ 0 46)) + l3) < 0 ∨ 397000 ≤ ((1985 * (σ 0 46)) + l3).toNatClampNeg
    · rw [if_pos g4] at h; cases h
    rw [if_neg g4] at h
    refine hV.run 18 [0] (ws' := wX8 (sC σ 21 (upd (σ 21) ((1985 * (σ 0 46)) + l3).toNatClampNeg (σ 15 l3.toNatClampNeg)))) (pc' := 154) (ls' := [(3, .int (l3 + 1)), (0, .ref 0), (1, .int l1), (2, .int l2)]) (st' := []) (ps := [¬ l1 ≤ l3, vp_in l3 1985, vp_in ((1985 * (σ 0 46)) + l3) 397000]) rfl ⟨c1, g3, g4, trivial⟩ ?_
    refine hV.pick [1, 2, 3, 0] (ls' := [(0, .ref 0), (1, .int l1), (2, .int l2), (3, .int (l3 + 1))]) rfl ?_
    exact hk154 (sC σ 21 (upd (σ 21) ((1985 * (σ 0 46)) + l3).toNatClampNeg (σ 15 l3.toNatClampNeg))) l1 l2 (l3 + 1) h
theorem p_X8_keep_L154 {l : Launch} {Post : Option Value → am_W → Prop} {V : am_VT} (hV : am_B l RX8 false 2 (am_cdT' tX8_keep) (am_rfL rfX8) none Post 36 V) (n : Nat) (res : am_M) (hP : Post none (wX8 res)) : ∀ (k : Nat) (σ : am_M) (l1 : Int32) (l2 : Int32) (l3 : Int32) (h : X8_keep_L154 n k σ l1 l2 l3 = some res), V (wX8 σ) 154 [(0, .ref 0), (1, .int l1), (2, .int l2), (3, .int l3)] [] := by
  intro k
  induction k with
  | zero => intro σ l1 l2 l3 h; cases h
  | succ k ih => intro σ l1 l2 l3 h; exact p_X8_keep_B154 hV n res hP _ ih σ l1 l2 l3 h
def X8_keep_J130 (n : Nat) (kont41 : am_M → Int32 → Int32 → Int32 → Option am_M) (σ : am_M) (l1 : Int32) (l2 : Int32) (l3 : Int32) : Option am_M := kont41 σ l1 l2 (l3 + 1)
set_option maxRecDepth 100000 in
set_option maxHeartbeats 4000000 in
theorem p_X8_keep_J130 {l : Launch} {Post : Option Value → am_W → Prop} {V : am_VT} (hV : am_B l RX8 false 2 (am_cdT' tX8_keep) (am_rfL rfX8) none Post 36 V) (n : Nat) (res : am_M) (hP : Post none (wX8 res)) (kont41 : am_M → Int32 → Int32 → Int32 → Option am_M) (hk41 : ∀ (σ : am_M) (l1 : Int32) (l2 : Int32) (l3 : Int32), kont41 σ l1 l2 l3 = some res → V (wX8 σ) 41 [(0, .ref 0), (1, .int l1), (2, .int l2), (3, .int l3)] []) (σ : am_M) (l1 : Int32) (l2 : Int32) (l3 : Int32) (h : X8_keep_J130 n kont41 σ l1 l2 l3 = some res) : V (wX8 σ) 130 [(0, .ref 0), (1, .int l1), (2, .int l2), (3, .int l3)] [] := by
  unfold X8_keep_J130 at h
  refine hV.run 2 [] (ws' := wX8 σ) (pc' := 41) (ls' := [(3, .int (l3 + 1)), (0, .ref 0), (1, .int l1), (2, .int l2)]) (st' := []) (ps := []) rfl trivial ?_
  refine hV.pick [1, 2, 3, 0] (ls' := [(0, .ref 0), (1, .int l1), (2, .int l2), (3, .int (l3 + 1))]) rfl ?_
  exact hk41 σ l1 l2 (l3 + 1) h
def X8_keep_J124 (n : Nat) (kont41 : am_M → Int32 → Int32 → Int32 → Option am_M) (σ : am_M) (l1 : Int32) (l2 : Int32) (l3 : Int32) (l4 : Int32) : Option am_M := if l4 = 0 then (X8_keep_J130 n kont41 σ l1 l2 l3) else (some σ)
set_option maxRecDepth 100000 in
set_option maxHeartbeats 4000000 in
theorem p_X8_keep_J124 {l : Launch} {Post : Option Value → am_W → Prop} {V : am_VT} (hV : am_B l RX8 false 2 (am_cdT' tX8_keep) (am_rfL rfX8) none Post 36 V) (n : Nat) (res : am_M) (hP : Post none (wX8 res)) (kont41 : am_M → Int32 → Int32 → Int32 → Option am_M) (hk41 : ∀ (σ : am_M) (l1 : Int32) (l2 : Int32) (l3 : Int32), kont41 σ l1 l2 l3 = some res → V (wX8 σ) 41 [(0, .ref 0), (1, .int l1), (2, .int l2), (3, .int l3)] []) (σ : am_M) (l1 : Int32) (l2 : Int32) (l3 : Int32) (l4 : Int32) (h : X8_keep_J124 n kont41 σ l1 l2 l3 l4 = some res) : V (wX8 σ) 124 [(0, .ref 0), (1, .int l1), (2, .int l2), (3, .int l3), (4, .int l4)] [] := by
  unfold X8_keep_J124 at h
  by_cases c1 : l4 = 0
  · rw [if_pos c1] at h
    refine hV.run 2 [1] (ws' := wX8 σ) (pc' := 130) (ls' := [(0, .ref 0), (1, .int l1), (2, .int l2), (3, .int l3), (4, .int l4)]) (st' := []) (ps := [l4 = 0]) rfl ⟨c1, trivial⟩ ?_
    refine hV.pick [0, 1, 2, 3] (ls' := [(0, .ref 0), (1, .int l1), (2, .int l2), (3, .int l3)]) rfl ?_
    exact p_X8_keep_J130 hV n res hP kont41 hk41 σ l1 l2 l3 h
  · rw [if_neg c1] at h
    refine hV.run 2 [0] (ws' := wX8 σ) (pc' := 129) (ls' := [(0, .ref 0), (1, .int l1), (2, .int l2), (3, .int l3), (4, .int l4)]) (st' := []) (ps := [¬ l4 = 0]) rfl ⟨c1, trivial⟩ ?_
    cases h
    exact hV.rv rfl rfl rfl hP
def X8_keep_J116 (n : Nat) (kont77 : am_M → Int32 → Int32 → Int32 → Int32 → Int32 → Option am_M) (σ : am_M) (l1 : Int32) (l2 : Int32) (l3 : Int32) (l5 : Int32) (s0 : Int32) : Option am_M := kont77 σ l1 l2 l3 s0 (l5 + 1)
set_option maxRecDepth 100000 in
set_option maxHeartbeats 4000000 in
theorem p_X8_keep_J116 {l : Launch} {Post : Option Value → am_W → Prop} {V : am_VT} (hV : am_B l RX8 false 2 (am_cdT' tX8_keep) (am_rfL rfX8) none Post 36 V) (n : Nat) (res : am_M) (hP : Post none (wX8 res)) (kont77 : am_M → Int32 → Int32 → Int32 → Int32 → Int32 → Option am_M) (hk77 : ∀ (σ : am_M) (l1 : Int32) (l2 : Int32) (l3 : Int32) (l4 : Int32) (l5 : Int32), kont77 σ l1 l2 l3 l4 l5 = some res → V (wX8 σ) 77 [(0, .ref 0), (1, .int l1), (2, .int l2), (3, .int l3), (4, .int l4), (5, .int l5)] []) (σ : am_M) (l1 : Int32) (l2 : Int32) (l3 : Int32) (l5 : Int32) (s0 : Int32) (h : X8_keep_J116 n kont77 σ l1 l2 l3 l5 s0 = some res) : V (wX8 σ) 116 [(0, .ref 0), (1, .int l1), (2, .int l2), (3, .int l3), (5, .int l5)] [.int s0] := by
  unfold X8_keep_J116 at h
  refine hV.run 3 [] (ws' := wX8 σ) (pc' := 77) (ls' := [(5, .int (l5 + 1)), (4, .int s0), (0, .ref 0), (1, .int l1), (2, .int l2), (3, .int l3)]) (st' := []) (ps := []) rfl trivial ?_
  refine hV.pick [2, 3, 4, 5, 1, 0] (ls' := [(0, .ref 0), (1, .int l1), (2, .int l2), (3, .int l3), (4, .int s0), (5, .int (l5 + 1))]) rfl ?_
  exact hk77 σ l1 l2 l3 s0 (l5 + 1) h
def X8_keep_B77 (n : Nat) (kont41 : am_M → Int32 → Int32 → Int32 → Option am_M) (kont77 : am_M → Int32 → Int32 → Int32 → Int32 → Int32 → Option am_M) (σ : am_M) (l1 : Int32) (l2 : Int32) (l3 : Int32) (l4 : Int32) (l5 : Int32) : Option am_M := if l1 ≤ l5 then (X8_keep_J124 n kont41 σ l1 l2 l3 l4) else (if l4 = 0 then (X8_keep_J124 n kont41 σ l1 l2 l3 l4) else (if ((1985 * l3) + l5) < 0 ∨ 397000 ≤ ((1985 * l3) + l5).toNatClampNeg then none else (if l5 < 0 ∨ 1985 ≤ l5.toNatClampNeg then none else (if (σ 21 ((1985 * l3) + l5).toNatClampNeg) = (σ 15 l5.toNatClampNeg) then (X8_keep_J116 n kont77 σ l1 l2 l3 l5 1) else (X8_keep_J116 n kont77 σ l1 l2 l3 l5 0)))))
def X8_keep_L77 (n : Nat) (kont41 : am_M → Int32 → Int32 → Int32 → Option am_M) : Nat → am_M → Int32 → Int32 → Int32 → Int32 → Int32 → Option am_M
 | 0 => fun _ _ _ _ _ _ => none
 | k + 1 => fun σ l1 l2 l3 l4 l5 => X8_keep_B77 n kont41 (X8_keep_L77 n kont41 k) σ l1 l2 l3 l4 l5
set_option maxRecDepth 100000 in
set_option maxHeartbeats 4000000 in
theorem p_X8_keep_B77 {l : Launch} {Post : Option Value → am_W → Prop} {V : am_VT} (hV : am_B l RX8 false 2 (am_cdT' tX8_keep) (am_rfL rfX8) none Post 36 V) (n : Nat) (res : am_M) (hP : Post none (wX8 res)) (kont41 : am_M → Int32 → Int32 → Int32 → Option am_M) (hk41 : ∀ (σ : am_M) (l1 : Int32) (l2 : Int32) (l3 : Int32), kont41 σ l1 l2 l3 = some res → V (wX8 σ) 41 [(0, .ref 0), (1, .int l1), (2, .int l2), (3, .int l3)] []) (kont77 : am_M → Int32 → Int32 → Int32 → Int32 → Int32 → Option am_M) (hk77 : ∀ (σ : am_M) (l1 : Int32) (l2 : Int32) (l3 : Int32) (l4 : Int32) (l5 : Int32), kont77 σ l1 l2 l3 l4 l5 = some res → V (wX8 σ) 77 [(0, .ref 0), (1, .int l1), (2, .int l2), (3, .int l3), (4, .int l4), (5, .int l5)] []) (σ : am_M) (l1 : Int32) (l2 : Int32) (l3 : Int32) (l4 : Int32) (l5 : Int32) (h : X8_keep_B77 n kont41 kont77 σ l1 l2 l3 l4 l5 = some res) : V (wX8 σ) 77 [(0, .ref 0), (1, .int l1), (2, .int l2), (3, .int l3), (4, .int l4), (5, .int l5)] [] := by
  unfold X8_keep_B77 at h
  by_cases c1 : l1 ≤ l5
  · rw [if_pos c1] at h
    refine hV.run 3 [1] (ws' := wX8 σ) (pc' := 124) (ls' := [(0, .ref 0), (1, .int l1), (2, .int l2), (3, .int l3), (4, .int l4), (5, .int l5)]) (st' := []) (ps := [l1 ≤ l5]) rfl ⟨c1, trivial⟩ ?_
    refine hV.pick [0, 1, 2, 3, 4] (ls' := [(0, .ref 0), (1, .int l1), (2, .int l2), (3, .int l3), (4, .int l4)]) rfl ?_
    exact p_X8_keep_J124 hV n res hP kont41 hk41 σ l1 l2 l3 l4 h
  · rw [if_neg c1] at h
    by_cases c2 : l4 = 0
    · rw [if_pos c2] at h
      refine hV.run 5 [0, 1] (ws' := wX8 σ) (pc' := 124) (ls' := [(0, .ref 0), (1, .int l1), (2, .int l2), (3, .int l3), (4, .int l4), (5, .int l5)]) (st' := []) (ps := [¬ l1 ≤ l5, l4 = 0]) rfl ⟨c1, c2, trivial⟩ ?_
      refine hV.pick [0, 1, 2, 3, 4] (ls' := [(0, .ref 0), (1, .int l1), (2, .int l2), (3, .int l3), (4, .int l4)]) rfl ?_
      exact p_X8_keep_J124 hV n res hP kont41 hk41 σ l1 l2 l3 l4 h
    · rw [if_neg c2] at h
      by_cases g3 : ((1985 * l3) + l5) < 0 ∨ 397000 ≤ ((1985 * l3) + l5).toNatClampNeg
      · rw [if_pos g3] at h; cases h
      rw [if_neg g3] at h
      by_cases g4 : l5 < 0 ∨ 1985 ≤ l5.toNatClampNeg
      · rw [if_pos g4] at h; cases h
      rw [if_neg g4] at h
      by_cases c5 : (σ 21 ((1985 * l3) + l5).toNatClampNeg) = (σ 15 l5.toNatClampNeg)
      · rw [if_pos c5] at h
        refine hV.run 20 [0, 0, 0] (ws' := wX8 σ) (pc' := 116) (ls' := [(0, .ref 0), (1, .int l1), (2, .int l2), (3, .int l3), (4, .int l4), (5, .int l5)]) (st' := [.int 1]) (ps := [¬ l1 ≤ l5, ¬ l4 = 0, vp_in ((1985 * l3) + l5) 397000, vp_in l5 1985, (σ 21 ((1985 * l3) + l5).toNatClampNeg) = (σ 15 l5.toNatClampNeg)]) rfl ⟨c1, c2, g3, g4, c5, trivial⟩ ?_
        refine hV.pick [0, 1, 2, 3, 5] (ls' := [(0, .ref 0), (1, .int l1), (2, .int l2), (3, .int l3), (5, .int l5)]) rfl ?_
        exact p_X8_keep_J116 hV n res hP kont77 hk77 σ l1 l2 l3 l5 1 h
      · rw [if_neg c5] at h
        refine hV.run 19 [0, 0, 1] (ws' := wX8 σ) (pc' := 116) (ls' := [(0, .ref 0), (1, .int l1), (2, .int l2), (3, .int l3), (4, .int l4), (5, .int l5)]) (st' := [.int 0]) (ps := [¬ l1 ≤ l5, ¬ l4 = 0, vp_in ((1985 * l3) + l5) 397000, vp_in l5 1985, ¬ (σ 21 ((1985 * l3) + l5).toNatClampNeg) = (σ 15 l5.toNatClampNeg)]) rfl ⟨c1, c2, g3, g4, c5, trivial⟩ ?_
        refine hV.pick [0, 1, 2, 3, 5] (ls' := [(0, .ref 0), (1, .int l1), (2, .int l2), (3, .int l3), (5, .int l5)]) rfl ?_
        exact p_X8_keep_J116 hV n res hP kont77 hk77 σ l1 l2 l3 l5 0 h
theorem p_X8_keep_L77 {l : Launch} {Post : Option Value → am_W → Prop} {V : am_VT} (hV : am_B l RX8 false 2 (am_cdT' tX8_keep) (am_rfL rfX8) none Post 36 V) (n : Nat) (res : am_M) (hP : Post none (wX8 res)) (kont41 : am_M → Int32 → Int32 → Int32 → Option am_M) (hk41 : ∀ (σ : am_M) (l1 : Int32) (l2 : Int32) (l3 : Int32), kont41 σ l1 l2 l3 = some res → V (wX8 σ) 41 [(0, .ref 0), (1, .int l1), (2, .int l2), (3, .int l3)] []) : ∀ (k : Nat) (σ : am_M) (l1 : Int32) (l2 : Int32) (l3 : Int32) (l4 : Int32) (l5 : Int32) (h : X8_keep_L77 n kont41 k σ l1 l2 l3 l4 l5 = some res), V (wX8 σ) 77 [(0, .ref 0), (1, .int l1), (2, .int l2), (3, .int l3), (4, .int l4), (5, .int l5)] [] := by
  intro k
  induction k with
  | zero => intro σ l1 l2 l3 l4 l5 h; cases h
  | succ k ih => intro σ l1 l2 l3 l4 l5 h; exact p_X8_keep_B77 hV n res hP kont41 hk41 _ ih σ l1 l2 l3 l4 l5 h
def X8_keep_B41 (n : Nat) (kont41 : am_M → Int32 → Int32 → Int32 → Option am_M) (σ : am_M) (l1 : Int32) (l2 : Int32) (l3 : Int32) : Option am_M := if (σ 0 46) ≤ l3 then (if (σ 0 46) = 200 then (some (sC σ 0 (am_u (σ 0) 48 1))) else (X8_keep_L154 n n σ l1 l2 0)) else (if l3 < 0 ∨ 201 ≤ l3.toNatClampNeg then none else (if (σ 22 l3.toNatClampNeg) = l2 then (X8_used σ l3).bind (fun q5 => if q5 = l1 then (X8_keep_L77 n kont41 n σ l1 l2 l3 1 0) else (X8_keep_J130 n kont41 σ l1 l2 l3)) else (X8_keep_J130 n kont41 σ l1 l2 l3)))
def X8_keep_L41 (n : Nat) : Nat → am_M → Int32 → Int32 → Int32 → Option am_M
 | 0 => fun _ _ _ _ => none
 | k + 1 => fun σ l1 l2 l3 => X8_keep_B41 n (X8_keep_L41 n k) σ l1 l2 l3
set_option maxRecDepth 100000 in
set_option maxHeartbeats 4000000 in
theorem p_X8_keep_B41 {l : Launch} {Post : Option Value → am_W → Prop} {V : am_VT} (hV : am_B l RX8 false 2 (am_cdT' tX8_keep) (am_rfL rfX8) none Post 36 V) (n : Nat) (res : am_M) (hP : Post none (wX8 res)) (kont41 : am_M → Int32 → Int32 → Int32 → Option am_M) (hk41 : ∀ (σ : am_M) (l1 : Int32) (l2 : Int32) (l3 : Int32), kont41 σ l1 l2 l3 = some res → V (wX8 σ) 41 [(0, .ref 0), (1, .int l1), (2, .int l2), (3, .int l3)] []) (σ : am_M) (l1 : Int32) (l2 : Int32) (l3 : Int32) (h : X8_keep_B41 n kont41 σ l1 l2 l3 = some res) : V (wX8 σ) 41 [(0, .ref 0), (1, .int l1), (2, .int l2), (3, .int l3)] [] := by
  unfold X8_keep_B41 at h
  by_cases c1 : (σ 0 46) ≤ l3
  · rw [if_pos c1] at h
    by_cases c2 : (σ 0 46) = 200
    · rw [if_pos c2] at h
      refine hV.run 11 [1, 0] (ws' := wX8 (sC σ 0 (am_u (σ 0) 48 1))) (pc' := 151) (ls' := [(0, .ref 0), (1, .int l1), (2, .int l2), (3, .int l3)]) (st' := []) (ps := [(σ 0 46) ≤ l3, (σ 0 46) = 200, (1 : Int32) = 0 ∨ (1 : Int32) = 1]) rfl ⟨c1, c2, (Or.inr rfl), trivial⟩ ?_
      cases h
      exact hV.rv rfl rfl rfl hP
    · rw [if_neg c2] at h
      refine hV.run 10 [1, 1] (ws' := wX8 σ) (pc' := 154) (ls' := [(3, .int 0), (0, .ref 0), (1, .int l1), (2, .int l2)]) (st' := []) (ps := [(σ 0 46) ≤ l3, ¬ (σ 0 46) = 200]) rfl ⟨c1, c2, trivial⟩ ?_
      refine hV.pick [1, 2, 3, 0] (ls' := [(0, .ref 0), (1, .int l1), (2, .int l2), (3, .int 0)]) rfl ?_
      exact p_X8_keep_L154 hV n res hP n σ l1 l2 0 h
  · rw [if_neg c1] at h
    by_cases g3 : l3 < 0 ∨ 201 ≤ l3.toNatClampNeg
    · rw [if_pos g3] at h; cases h
    rw [if_neg g3] at h
    by_cases c4 : (σ 22 l3.toNatClampNeg) = l2
    · rw [if_pos c4] at h
      refine hV.run 12 [0, 0] (ws' := wX8 σ) (pc' := 61) (ls' := [(0, .ref 0), (1, .int l1), (2, .int l2), (3, .int l3)]) (st' := [.int l3, .ref 0]) (ps := [¬ (σ 0 46) ≤ l3, vp_in l3 201, (σ 22 l3.toNatClampNeg) = l2]) rfl ⟨c1, g3, c4, trivial⟩ ?_
      obtain ⟨q5, hq5, h⟩ := am_bind h
      refine hV.cOi (as := [.int l3]) (rest := []) (st := [.int l3, .ref 0]) (ws2 := wX8 σ) (pc2 := 64) kX8_437 (c_X8_used l σ l3 q5 hq5) rfl rfl rfl rfl rfl rfl rfl rfl rfl ?_
      by_cases c6 : q5 = l1
      · rw [if_pos c6] at h
        refine hV.run 6 [1] (ws' := wX8 σ) (pc' := 77) (ls' := [(5, .int 0), (4, .int 1), (0, .ref 0), (1, .int l1), (2, .int l2), (3, .int l3)]) (st' := []) (ps := [q5 = l1]) rfl ⟨c6, trivial⟩ ?_
        refine hV.pick [2, 3, 4, 5, 1, 0] (ls' := [(0, .ref 0), (1, .int l1), (2, .int l2), (3, .int l3), (4, .int 1), (5, .int 0)]) rfl ?_
        exact p_X8_keep_L77 hV n res hP kont41 hk41 n σ l1 l2 l3 1 0 h
      · rw [if_neg c6] at h
        refine hV.run 3 [0] (ws' := wX8 σ) (pc' := 130) (ls' := [(0, .ref 0), (1, .int l1), (2, .int l2), (3, .int l3)]) (st' := []) (ps := [¬ q5 = l1]) rfl ⟨c6, trivial⟩ ?_
        exact p_X8_keep_J130 hV n res hP kont41 hk41 σ l1 l2 l3 h
    · rw [if_neg c4] at h
      refine hV.run 10 [0, 1] (ws' := wX8 σ) (pc' := 130) (ls' := [(0, .ref 0), (1, .int l1), (2, .int l2), (3, .int l3)]) (st' := []) (ps := [¬ (σ 0 46) ≤ l3, vp_in l3 201, ¬ (σ 22 l3.toNatClampNeg) = l2]) rfl ⟨c1, g3, c4, trivial⟩ ?_
      exact p_X8_keep_J130 hV n res hP kont41 hk41 σ l1 l2 l3 h
theorem p_X8_keep_L41 {l : Launch} {Post : Option Value → am_W → Prop} {V : am_VT} (hV : am_B l RX8 false 2 (am_cdT' tX8_keep) (am_rfL rfX8) none Post 36 V) (n : Nat) (res : am_M) (hP : Post none (wX8 res)) : ∀ (k : Nat) (σ : am_M) (l1 : Int32) (l2 : Int32) (l3 : Int32) (h : X8_keep_L41 n k σ l1 l2 l3 = some res), V (wX8 σ) 41 [(0, .ref 0), (1, .int l1), (2, .int l2), (3, .int l3)] [] := by
  intro k
  induction k with
  | zero => intro σ l1 l2 l3 h; cases h
  | succ k ih => intro σ l1 l2 l3 h; exact p_X8_keep_B41 hV n res hP _ ih σ l1 l2 l3 h
def X8_keep_B16 (n : Nat) (kont16 : am_M → Int32 → Int32 → Int32 → Option am_M) (σ : am_M) (l1 : Int32) (l2 : Int32) (l3 : Int32) : Option am_M := if l1 ≤ l3 then (X8_keep_L41 n n σ l1 l2 0) else (if l3 < 0 ∨ 1985 ≤ l3.toNatClampNeg then none else (kont16 σ l1 ((31 * l2) + (σ 15 l3.toNatClampNeg)) (l3 + 1)))
def X8_keep_L16 (n : Nat) : Nat → am_M → Int32 → Int32 → Int32 → Option am_M
 | 0 => fun _ _ _ _ => none
 | k + 1 => fun σ l1 l2 l3 => X8_keep_B16 n (X8_keep_L16 n k) σ l1 l2 l3
set_option maxRecDepth 100000 in
set_option maxHeartbeats 4000000 in
theorem p_X8_keep_B16 {l : Launch} {Post : Option Value → am_W → Prop} {V : am_VT} (hV : am_B l RX8 false 2 (am_cdT' tX8_keep) (am_rfL rfX8) none Post 36 V) (n : Nat) (res : am_M) (hP : Post none (wX8 res)) (kont16 : am_M → Int32 → Int32 → Int32 → Option am_M) (hk16 : ∀ (σ : am_M) (l1 : Int32) (l2 : Int32) (l3 : Int32), kont16 σ l1 l2 l3 = some res → V (wX8 σ) 16 [(0, .ref 0), (1, .int l1), (2, .int l2), (3, .int l3)] []) (σ : am_M) (l1 : Int32) (l2 : Int32) (l3 : Int32) (h : X8_keep_B16 n kont16 σ l1 l2 l3 = some res) : V (wX8 σ) 16 [(0, .ref 0), (1, .int l1), (2, .int l2), (3, .int l3)] [] := by
  unfold X8_keep_B16 at h
  by_cases c1 : l1 ≤ l3
  · rw [if_pos c1] at h
    refine hV.run 5 [1] (ws' := wX8 σ) (pc' := 41) (ls' := [(3, .int 0), (0, .ref 0), (1, .int l1), (2, .int l2)]) (st' := []) (ps := [l1 ≤ l3]) rfl ⟨c1, trivial⟩ ?_
    refine hV.pick [1, 2, 3, 0] (ls' := [(0, .ref 0), (1, .int l1), (2, .int l2), (3, .int 0)]) rfl ?_
    exact p_X8_keep_L41 hV n res hP n σ l1 l2 0 h
  · rw [if_neg c1] at h
    by_cases g2 : l3 < 0 ∨ 1985 ≤ l3.toNatClampNeg
    · rw [if_pos g2] at h; cases h
    rw [if_neg g2] at h
    refine hV.run 14 [0] (ws' := wX8 σ) (pc' := 16) (ls' := [(3, .int (l3 + 1)), (2, .int ((31 * l2) + (σ 15 l3.toNatClampNeg))), (0, .ref 0), (1, .int l1)]) (st' := []) (ps := [¬ l1 ≤ l3, vp_in l3 1985]) rfl ⟨c1, g2, trivial⟩ ?_
    refine hV.pick [2, 3, 1, 0] (ls' := [(0, .ref 0), (1, .int l1), (2, .int ((31 * l2) + (σ 15 l3.toNatClampNeg))), (3, .int (l3 + 1))]) rfl ?_
    exact hk16 σ l1 ((31 * l2) + (σ 15 l3.toNatClampNeg)) (l3 + 1) h
theorem p_X8_keep_L16 {l : Launch} {Post : Option Value → am_W → Prop} {V : am_VT} (hV : am_B l RX8 false 2 (am_cdT' tX8_keep) (am_rfL rfX8) none Post 36 V) (n : Nat) (res : am_M) (hP : Post none (wX8 res)) : ∀ (k : Nat) (σ : am_M) (l1 : Int32) (l2 : Int32) (l3 : Int32) (h : X8_keep_L16 n k σ l1 l2 l3 = some res), V (wX8 σ) 16 [(0, .ref 0), (1, .int l1), (2, .int l2), (3, .int l3)] [] := by
  intro k
  induction k with
  | zero => intro σ l1 l2 l3 h; cases h
  | succ k ih => intro σ l1 l2 l3 h; exact p_X8_keep_B16 hV n res hP _ ih σ l1 l2 l3 h
def X8_keep (n : Nat) (σ : am_M) : Option am_M := X8_keep_L16 n n σ (65 + (6 * (X8_words σ))) 7 0
set_option maxRecDepth 100000 in
set_option maxHeartbeats 4000000 in
theorem c_X8_keep (l : Launch) (n : Nat) (σ : am_M) (res : am_M) (h : X8_keep n σ = some res) : am_Con l yX8_keep cX8_keep 6 none 2 [.ref 0] (wX8 σ) (fun (r : Option Value) (w : am_W) => r = none ∧ w = (wX8 res)) := by
  refine am_metn (n0 := 36) (own := RX8) (cd := am_cdT' tX8_keep) (rf := am_rfL rfX8) (ini := false) rfl (by decide +kernel) rfl (by decide) dX8_keep rfX8_ok (Nat.le_of_ble_eq_true rfl) ?_
  intro V hV
  have hP : (fun (r : Option Value) (w : am_W) => r = none ∧ w = (wX8 res)) none (wX8 res) := ⟨rfl, rfl⟩
  show V (wX8 σ) 0 [(0, .ref 0)] []
  unfold X8_keep at h
  refine hV.run 3 [] (ws' := wX8 σ) (pc' := 5) (ls' := [(0, .ref 0)]) (st' := [.ref 0, .int 6, .int 65]) (ps := []) rfl trivial ?_
  refine hV.cOi (as := []) (rest := [.int 6, .int 65]) (st := [.ref 0, .int 6, .int 65]) (ws2 := wX8 σ) (pc2 := 8) kX8_363 (c_X8_words l σ) rfl rfl rfl rfl rfl rfl rfl rfl rfl ?_
  refine hV.run 7 [] (ws' := wX8 σ) (pc' := 16) (ls' := [(3, .int 0), (2, .int 7), (1, .int (65 + (6 * (X8_words σ)))), (0, .ref 0)]) (st' := []) (ps := []) rfl trivial ?_
  refine hV.pick [3, 2, 1, 0] (ls' := [(0, .ref 0), (1, .int (65 + (6 * (X8_words σ)))), (2, .int 7), (3, .int 0)]) rfl ?_
  exact p_X8_keep_L16 hV n res hP n σ (65 + (6 * (X8_words σ))) 7 0 h

def X8_bring_B55 (n : Nat) (kont55 : am_M → Int32 → Int32 → Option am_M) (σ : am_M) (l3 : Int32) (l4 : Int32) : Option am_M := if l3 ≤ l4 then (some σ) else (if l4 < 0 ∨ 1985 ≤ l4.toNatClampNeg then none else (kont55 (sC σ 15 (upd (σ 15) l4.toNatClampNeg 0)) l3 (l4 + 1)))
def X8_bring_L55 (n : Nat) : Nat → am_M → Int32 → Int32 → Option am_M
 | 0 => fun _ _ _ => none
 | k + 1 => fun σ l3 l4 => X8_bring_B55 n (X8_bring_L55 n k) σ l3 l4
set_option maxRecDepth 100000 in
set_option maxHeartbeats 4000000 in
theorem p_X8_bring_B55 {l : Launch} {Post : Option Value → am_W → Prop} {V : am_VT} (hV : am_B l RX8 false 2 (am_cdT' tX8_bring) (am_rfL rfX8) none Post 36 V) (n : Nat) (res : am_M) (hP : Post none (wX8 res)) (kont55 : am_M → Int32 → Int32 → Option am_M) (hk55 : ∀ (σ : am_M) (l3 : Int32) (l4 : Int32), kont55 σ l3 l4 = some res → V (wX8 σ) 55 [(0, .ref 0), (3, .int l3), (4, .int l4)] []) (σ : am_M) (l3 : Int32) (l4 : Int32) (h : X8_bring_B55 n kont55 σ l3 l4 = some res) : V (wX8 σ) 55 [(0, .ref 0), (3, .int l3), (4, .int l4)] [] := by
  unfold X8_bring_B55 at h
  by_cases c1 : l3 ≤ l4
  · rw [if_pos c1] at h
    refine hV.run 3 [1] (ws' := wX8 σ) (pc' := 75) (ls' := [(0, .ref 0), (3, .int l3), (4, .int l4)]) (st' := []) (ps := [l3 ≤ l4]) rfl ⟨c1, trivial⟩ ?_
    cases h
    exact hV.rv rfl rfl rfl hP
  · rw [if_neg c1] at h
    by_cases g2 : l4 < 0 ∨ 1985 ≤ l4.toNatClampNeg
    · rw [if_pos g2] at h; cases h
    rw [if_neg g2] at h
    refine hV.run 10 [0] (ws' := wX8 (sC σ 15 (upd (σ 15) l4.toNatClampNeg 0))) (pc' := 55) (ls' := [(4, .int (l4 + 1)), (0, .ref 0), (3, .int l3)]) (st' := []) (ps := [¬ l3 ≤ l4, vp_in l4 1985]) rfl ⟨c1, g2, trivial⟩ ?_
    refine hV.pick [1, 2, 0] (ls' := [(0, .ref 0), (3, .int l3), (4, .int (l4 + 1))]) rfl ?_
    exact hk55 (sC σ 15 (upd (σ 15) l4.toNatClampNeg 0)) l3 (l4 + 1) h
theorem p_X8_bring_L55 {l : Launch} {Post : Option Value → am_W → Prop} {V : am_VT} (hV : am_B l RX8 false 2 (am_cdT' tX8_bring) (am_rfL rfX8) none Post 36 V) (n : Nat) (res : am_M) (hP : Post none (wX8 res)) : ∀ (k : Nat) (σ : am_M) (l3 : Int32) (l4 : Int32) (h : X8_bring_L55 n k σ l3 l4 = some res), V (wX8 σ) 55 [(0, .ref 0), (3, .int l3), (4, .int l4)] [] := by
  intro k
  induction k with
  | zero => intro σ l3 l4 h; cases h
  | succ k ih => intro σ l3 l4 h; exact p_X8_bring_B55 hV n res hP _ ih σ l3 l4 h
def X8_bring_B20 (n : Nat) (kont20 : am_M → Int32 → Int32 → Int32 → Int32 → Option am_M) (σ : am_M) (l1 : Int32) (l2 : Int32) (l3 : Int32) (l4 : Int32) : Option am_M := if l2 ≤ l4 then (X8_bring_L55 n n σ l3 l2) else (if ((1985 * l1) + l4) < 0 ∨ 397000 ≤ ((1985 * l1) + l4).toNatClampNeg then none else (if l4 < 0 ∨ 1985 ≤ l4.toNatClampNeg then none else (kont20 (sC σ 15 (upd (σ 15) l4.toNatClampNeg (σ 21 ((1985 * l1) + l4).toNatClampNeg))) l1 l2 l3 (l4 + 1))))
def X8_bring_L20 (n : Nat) : Nat → am_M → Int32 → Int32 → Int32 → Int32 → Option am_M
 | 0 => fun _ _ _ _ _ => none
 | k + 1 => fun σ l1 l2 l3 l4 => X8_bring_B20 n (X8_bring_L20 n k) σ l1 l2 l3 l4
set_option maxRecDepth 100000 in
set_option maxHeartbeats 4000000 in
theorem p_X8_bring_B20 {l : Launch} {Post : Option Value → am_W → Prop} {V : am_VT} (hV : am_B l RX8 false 2 (am_cdT' tX8_bring) (am_rfL rfX8) none Post 36 V) (n : Nat) (res : am_M) (hP : Post none (wX8 res)) (kont20 : am_M → Int32 → Int32 → Int32 → Int32 → Option am_M) (hk20 : ∀ (σ : am_M) (l1 : Int32) (l2 : Int32) (l3 : Int32) (l4 : Int32), kont20 σ l1 l2 l3 l4 = some res → V (wX8 σ) 20 [(0, .ref 0), (1, .int l1), (2, .int l2), (3, .int l3), (4, .int l4)] []) (σ : am_M) (l1 : Int32) (l2 : Int32) (l3 : Int32) (l4 : Int32) (h : X8_bring_B20 n kont20 σ l1 l2 l3 l4 = some res) : V (wX8 σ) 20 [(0, .ref 0), (1, .int l1), (2, .int l2), (3, .int l3), (4, .int l4)] [] := by
  unfold X8_bring_B20 at h
  by_cases c1 : l2 ≤ l4
  · rw [if_pos c1] at h
    refine hV.run 5 [1] (ws' := wX8 σ) (pc' := 55) (ls' := [(4, .int l2), (0, .ref 0), (1, .int l1), (2, .int l2), (3, .int l3)]) (st' := []) (ps := [l2 ≤ l4]) rfl ⟨c1, trivial⟩ ?_
    refine hV.pick [1, 4, 0] (ls' := [(0, .ref 0), (3, .int l3), (4, .int l2)]) rfl ?_
    exact p_X8_bring_L55 hV n res hP n σ l3 l2 h
  · rw [if_neg c1] at h
    by_cases g2 : ((1985 * l1) + l4) < 0 ∨ 397000 ≤ ((1985 * l1) + l4).toNatClampNeg
    · rw [if_pos g2] at h; cases h
    rw [if_neg g2] at h
    by_cases g3 : l4 < 0 ∨ 1985 ≤ l4.toNatClampNeg
    · rw [if_pos g3] at h; cases h
    rw [if_neg g3] at h
    refine hV.run 17 [0] (ws' := wX8 (sC σ 15 (upd (σ 15) l4.toNatClampNeg (σ 21 ((1985 * l1) + l4).toNatClampNeg)))) (pc' := 20) (ls' := [(4, .int (l4 + 1)), (0, .ref 0), (1, .int l1), (2, .int l2), (3, .int l3)]) (st' := []) (ps := [¬ l2 ≤ l4, vp_in ((1985 * l1) + l4) 397000, vp_in l4 1985]) rfl ⟨c1, g2, g3, trivial⟩ ?_
    refine hV.pick [1, 2, 3, 4, 0] (ls' := [(0, .ref 0), (1, .int l1), (2, .int l2), (3, .int l3), (4, .int (l4 + 1))]) rfl ?_
    exact hk20 (sC σ 15 (upd (σ 15) l4.toNatClampNeg (σ 21 ((1985 * l1) + l4).toNatClampNeg))) l1 l2 l3 (l4 + 1) h
theorem p_X8_bring_L20 {l : Launch} {Post : Option Value → am_W → Prop} {V : am_VT} (hV : am_B l RX8 false 2 (am_cdT' tX8_bring) (am_rfL rfX8) none Post 36 V) (n : Nat) (res : am_M) (hP : Post none (wX8 res)) : ∀ (k : Nat) (σ : am_M) (l1 : Int32) (l2 : Int32) (l3 : Int32) (l4 : Int32) (h : X8_bring_L20 n k σ l1 l2 l3 l4 = some res), V (wX8 σ) 20 [(0, .ref 0), (1, .int l1), (2, .int l2), (3, .int l3), (4, .int l4)] [] := by
  intro k
  induction k with
  | zero => intro σ l1 l2 l3 l4 h; cases h
  | succ k ih => intro σ l1 l2 l3 l4 h; exact p_X8_bring_B20 hV n res hP _ ih σ l1 l2 l3 l4 h
def X8_bring (n : Nat) (σ : am_M) (a1 : Int32) : Option am_M := (X8_used σ a1).bind (fun q1 => X8_bring_L20 n n σ a1 q1 (65 + (6 * (X8_words σ))) 0)
set_option maxRecDepth 100000 in
set_option maxHeartbeats 4000000 in
theorem c_X8_bring (l : Launch) (n : Nat) (σ : am_M) (a1 : Int32) (res : am_M) (h : X8_bring n σ a1 = some res) : am_Con l yX8_bring cX8_bring 5 none 2 [.ref 0, .int a1] (wX8 σ) (fun (r : Option Value) (w : am_W) => r = none ∧ w = (wX8 res)) := by
  refine am_metn (n0 := 36) (own := RX8) (cd := am_cdT' tX8_bring) (rf := am_rfL rfX8) (ini := false) rfl (by decide +kernel) rfl (by decide) dX8_bring rfX8_ok (Nat.le_of_ble_eq_true rfl) ?_
  intro V hV
  have hP : (fun (r : Option Value) (w : am_W) => r = none ∧ w = (wX8 res)) none (wX8 res) := ⟨rfl, rfl⟩
  show V (wX8 σ) 0 [(0, .ref 0), (1, .int a1)] []
  unfold X8_bring at h
  refine hV.run 2 [] (ws' := wX8 σ) (pc' := 2) (ls' := [(0, .ref 0), (1, .int a1)]) (st' := [.int a1, .ref 0]) (ps := []) rfl trivial ?_
  obtain ⟨q1, hq1, h⟩ := am_bind h
  refine hV.cOi (as := [.int a1]) (rest := []) (st := [.int a1, .ref 0]) (ws2 := wX8 σ) (pc2 := 5) kX8_437 (c_X8_used l σ a1 q1 hq1) rfl rfl rfl rfl rfl rfl rfl rfl rfl ?_
  refine hV.run 4 [] (ws' := wX8 σ) (pc' := 11) (ls' := [(2, .int q1), (0, .ref 0), (1, .int a1)]) (st' := [.ref 0, .int 6, .int 65]) (ps := []) rfl trivial ?_
  refine hV.cOi (as := []) (rest := [.int 6, .int 65]) (st := [.ref 0, .int 6, .int 65]) (ws2 := wX8 σ) (pc2 := 14) kX8_363 (c_X8_words l σ) rfl rfl rfl rfl rfl rfl rfl rfl rfl ?_
  refine hV.run 5 [] (ws' := wX8 σ) (pc' := 20) (ls' := [(4, .int 0), (3, .int (65 + (6 * (X8_words σ)))), (2, .int q1), (0, .ref 0), (1, .int a1)]) (st' := []) (ps := []) rfl trivial ?_
  refine hV.pick [3, 4, 2, 1, 0] (ls' := [(0, .ref 0), (1, .int a1), (2, .int q1), (3, .int (65 + (6 * (X8_words σ)))), (4, .int 0)]) rfl ?_
  exact p_X8_bring_L20 hV n res hP n σ a1 q1 (65 + (6 * (X8_words σ))) 0 h

def X8_from_J139 (n : Nat) (kont9 : am_M → Int32 → Int32 → Option am_M) (σ : am_M) (l1 : Int32) (l2 : Int32) : Option am_M := kont9 σ l1 (l2 + 1)
set_option maxRecDepth 100000 in
set_option maxHeartbeats 4000000 in
theorem p_X8_from_J139 {l : Launch} {Post : Option Value → am_W → Prop} {V : am_VT} (hV : am_B l RX8 false 10 (am_cdT' tX8_from) (am_rfL rfX8) none Post 36 V) (n : Nat) (res : am_M) (hP : Post none (wX8 res)) (kont9 : am_M → Int32 → Int32 → Option am_M) (hk9 : ∀ (σ : am_M) (l1 : Int32) (l2 : Int32), kont9 σ l1 l2 = some res → V (wX8 σ) 9 [(0, .ref 0), (1, .int l1), (2, .int l2)] []) (σ : am_M) (l1 : Int32) (l2 : Int32) (h : X8_from_J139 n kont9 σ l1 l2 = some res) : V (wX8 σ) 139 [(0, .ref 0), (1, .int l1), (2, .int l2)] [] := by
  unfold X8_from_J139 at h
  refine hV.run 2 [] (ws' := wX8 σ) (pc' := 9) (ls' := [(2, .int (l2 + 1)), (0, .ref 0), (1, .int l1)]) (st' := []) (ps := []) rfl trivial ?_
  refine hV.pick [1, 2, 0] (ls' := [(0, .ref 0), (1, .int l1), (2, .int (l2 + 1))]) rfl ?_
  exact hk9 σ l1 (l2 + 1) h
def X8_from_J133 (n : Nat) (kont39 : am_M → Int32 → Int32 → Int32 → Int32 → Option am_M) (σ : am_M) (l1 : Int32) (l2 : Int32) (l3 : Int32) (l4 : Int32) : Option am_M := kont39 σ l1 l2 l3 (l4 + 1)
set_option maxRecDepth 100000 in
set_option maxHeartbeats 4000000 in
theorem p_X8_from_J133 {l : Launch} {Post : Option Value → am_W → Prop} {V : am_VT} (hV : am_B l RX8 false 10 (am_cdT' tX8_from) (am_rfL rfX8) none Post 36 V) (n : Nat) (res : am_M) (hP : Post none (wX8 res)) (kont39 : am_M → Int32 → Int32 → Int32 → Int32 → Option am_M) (hk39 : ∀ (σ : am_M) (l1 : Int32) (l2 : Int32) (l3 : Int32) (l4 : Int32), kont39 σ l1 l2 l3 l4 = some res → V (wX8 σ) 39 [(0, .ref 0), (1, .int l1), (2, .int l2), (3, .int l3), (4, .int l4)] []) (σ : am_M) (l1 : Int32) (l2 : Int32) (l3 : Int32) (l4 : Int32) (h : X8_from_J133 n kont39 σ l1 l2 l3 l4 = some res) : V (wX8 σ) 133 [(0, .ref 0), (1, .int l1), (2, .int l2), (3, .int l3), (4, .int l4)] [] := by
  unfold X8_from_J133 at h
  refine hV.run 2 [] (ws' := wX8 σ) (pc' := 39) (ls' := [(4, .int (l4 + 1)), (0, .ref 0), (1, .int l1), (2, .int l2), (3, .int l3)]) (st' := []) (ps := []) rfl trivial ?_
  refine hV.pick [1, 2, 3, 4, 0] (ls' := [(0, .ref 0), (1, .int l1), (2, .int l2), (3, .int l3), (4, .int (l4 + 1))]) rfl ?_
  exact hk39 σ l1 l2 l3 (l4 + 1) h
def X8_from_J129 (n : Nat) (kont39 : am_M → Int32 → Int32 → Int32 → Int32 → Option am_M) (σ : am_M) (l1 : Int32) (l2 : Int32) (l3 : Int32) (l4 : Int32) : Option am_M := (X8_keep n σ).bind (fun q1 => X8_from_J133 n kont39 q1 l1 l2 l3 l4)
set_option maxRecDepth 100000 in
set_option maxHeartbeats 4000000 in
theorem p_X8_from_J129 {l : Launch} {Post : Option Value → am_W → Prop} {V : am_VT} (hV : am_B l RX8 false 10 (am_cdT' tX8_from) (am_rfL rfX8) none Post 36 V) (n : Nat) (res : am_M) (hP : Post none (wX8 res)) (kont39 : am_M → Int32 → Int32 → Int32 → Int32 → Option am_M) (hk39 : ∀ (σ : am_M) (l1 : Int32) (l2 : Int32) (l3 : Int32) (l4 : Int32), kont39 σ l1 l2 l3 l4 = some res → V (wX8 σ) 39 [(0, .ref 0), (1, .int l1), (2, .int l2), (3, .int l3), (4, .int l4)] []) (σ : am_M) (l1 : Int32) (l2 : Int32) (l3 : Int32) (l4 : Int32) (h : X8_from_J129 n kont39 σ l1 l2 l3 l4 = some res) : V (wX8 σ) 129 [(0, .ref 0), (1, .int l1), (2, .int l2), (3, .int l3), (4, .int l4)] [] := by
  unfold X8_from_J129 at h
  refine hV.run 1 [] (ws' := wX8 σ) (pc' := 130) (ls' := [(0, .ref 0), (1, .int l1), (2, .int l2), (3, .int l3), (4, .int l4)]) (st' := [.ref 0]) (ps := []) rfl trivial ?_
  obtain ⟨q1, hq1, h⟩ := am_bind h
  refine hV.cOv (as := []) (rest := []) (st := [.ref 0]) (ws2 := wX8 q1) (pc2 := 133) kX8_453 (c_X8_keep l n σ q1 hq1) rfl rfl rfl rfl rfl rfl rfl rfl rfl ?_
  exact p_X8_from_J133 hV n res hP kont39 hk39 q1 l1 l2 l3 l4 h
def X8_from_J53 (n : Nat) (kont9 : am_M → Int32 → Int32 → Option am_M) (kont39 : am_M → Int32 → Int32 → Int32 → Int32 → Option am_M) (σ : am_M) (l1 : Int32) (l2 : Int32) (l3 : Int32) (l4 : Int32) (s0 : Int32) (s1 : Int32) : Option am_M := if s0 ≤ s1 then (X8_from_J139 n kont9 σ l1 l2) else (if (σ 0 48) = 0 then (X8_bring n σ l1).bind (fun q3 => (X8_can n q3 l2 l4).bind (fun q4 => if q4.1 = true then (if l1 < 0 ∨ 201 ≤ l1.toNatClampNeg then none else (X8_move n (sC q4.2 23 (upd (q4.2 23) l1.toNatClampNeg 0)) l2 l4).bind (fun q7 => if (q7 0 40) = (-1) then (X8_from_J129 n kont39 q7 l1 l2 l3 l4) else (if ((40 * (q7 0 40)) + (q7 0 42)) < 0 ∨ 320 ≤ ((40 * (q7 0 40)) + (q7 0 42)).toNatClampNeg then none else (if ((40 * (q7 0 40)) + (q7 0 42)) < 0 ∨ 320 ≤ ((40 * (q7 0 40)) + (q7 0 42)).toNatClampNeg then none else (X8_from_J129 n kont39 (sC q7 24 (upd (q7 24) ((40 * (q7 0 40)) + (q7 0 42)).toNatClampNeg ((q7 24 ((40 * (q7 0 40)) + (q7 0 42)).toNatClampNeg) ||| (1 <<< ((q7 0 41) &&& 31))))) l1 l2 l3 l4))))) else (X8_from_J133 n kont39 q4.2 l1 l2 l3 l4))) else (X8_from_J139 n kont9 σ l1 l2))
set_option maxRecDepth 100000 in
set_option maxHeartbeats 4000000 in
theorem p_X8_from_J53 {l : Launch} {Post : Option Value → am_W → Prop} {V : am_VT} (hV : am_B l RX8 false 10 (am_cdT' tX8_from) (am_rfL rfX8) none Post 36 V) (n : Nat) (res : am_M) (hP : Post none (wX8 res)) (kont9 : am_M → Int32 → Int32 → Option am_M) (hk9 : ∀ (σ : am_M) (l1 : Int32) (l2 : Int32), kont9 σ l1 l2 = some res → V (wX8 σ) 9 [(0, .ref 0), (1, .int l1), (2, .int l2)] []) (kont39 : am_M → Int32 → Int32 → Int32 → Int32 → Option am_M) (hk39 : ∀ (σ : am_M) (l1 : Int32) (l2 : Int32) (l3 : Int32) (l4 : Int32), kont39 σ l1 l2 l3 l4 = some res → V (wX8 σ) 39 [(0, .ref 0), (1, .int l1), (2, .int l2), (3, .int l3), (4, .int l4)] []) (σ : am_M) (l1 : Int32) (l2 : Int32) (l3 : Int32) (l4 : Int32) (s0 : Int32) (s1 : Int32) (h : X8_from_J53 n kont9 kont39 σ l1 l2 l3 l4 s0 s1 = some res) : V (wX8 σ) 53 [(0, .ref 0), (1, .int l1), (2, .int l2), (3, .int l3), (4, .int l4)] [.int s0, .int s1] := by
  unfold X8_from_J53 at h
  by_cases c1 : s0 ≤ s1
  · rw [if_pos c1] at h
    refine hV.run 1 [1] (ws' := wX8 σ) (pc' := 139) (ls' := [(0, .ref 0), (1, .int l1), (2, .int l2), (3, .int l3), (4, .int l4)]) (st' := []) (ps := [s0 ≤ s1]) rfl ⟨c1, trivial⟩ ?_
    refine hV.pick [0, 1, 2] (ls' := [(0, .ref 0), (1, .int l1), (2, .int l2)]) rfl ?_
    exact p_X8_from_J139 hV n res hP kont9 hk9 σ l1 l2 h
  · rw [if_neg c1] at h
    by_cases c2 : (σ 0 48) = 0
    · rw [if_pos c2] at h
      refine hV.run 6 [0, 0] (ws' := wX8 σ) (pc' := 65) (ls' := [(0, .ref 0), (1, .int l1), (2, .int l2), (3, .int l3), (4, .int l4)]) (st' := [.int l1, .ref 0]) (ps := [¬ s0 ≤ s1, (σ 0 48) = 0]) rfl ⟨c1, c2, trivial⟩ ?_
      obtain ⟨q3, hq3, h⟩ := am_bind h
      refine hV.cOv (as := [.int l1]) (rest := []) (st := [.int l1, .ref 0]) (ws2 := wX8 q3) (pc2 := 68) kX8_444 (c_X8_bring l n σ l1 q3 hq3) rfl rfl rfl rfl rfl rfl rfl rfl rfl ?_
      refine hV.run 3 [] (ws' := wX8 q3) (pc' := 72) (ls' := [(0, .ref 0), (1, .int l1), (2, .int l2), (3, .int l3), (4, .int l4)]) (st' := [.int l4, .int l2, .ref 0]) (ps := []) rfl trivial ?_
      obtain ⟨q4, hq4, h⟩ := am_bind h
      refine hV.cOi (as := [.int l2, .int l4]) (rest := []) (st := [.int l4, .int l2, .ref 0]) (ws2 := wX8 q4.2) (pc2 := 75) kX8_447 (c_X8_can l n q3 l2 l4 q4 hq4) rfl rfl rfl rfl rfl rfl rfl rfl rfl ?_
      by_cases c5 : q4.1 = true
      · rw [if_pos c5] at h
        by_cases g6 : l1 < 0 ∨ 201 ≤ l1.toNatClampNeg
        · rw [if_pos g6] at h; cases h
        rw [if_neg g6] at h
        refine hV.run 9 [1] (ws' := wX8 (sC q4.2 23 (upd (q4.2 23) l1.toNatClampNeg 0))) (pc' := 92) (ls' := [(0, .ref 0), (1, .int l1), (2, .int l2), (3, .int l3), (4, .int l4)]) (st' := [.int l4, .int l2, .ref 0]) (ps := [¬ (b2i q4.1) = 0, vp_in l1 201, (0 : Int32) = 0 ∨ (0 : Int32) = 1]) rfl ⟨(b2i_t c5), g6, (Or.inl rfl), trivial⟩ ?_
        obtain ⟨q7, hq7, h⟩ := am_bind h
        refine hV.cOv (as := [.int l2, .int l4]) (rest := []) (st := [.int l4, .int l2, .ref 0]) (ws2 := wX8 q7) (pc2 := 95) kX8_450 (c_X8_move l n (sC q4.2 23 (upd (q4.2 23) l1.toNatClampNeg 0)) l2 l4 q7 hq7) rfl rfl rfl rfl rfl rfl rfl rfl rfl ?_
        by_cases c8 : (q7 0 40) = (-1)
        · rw [if_pos c8] at h
          refine hV.run 4 [1] (ws' := wX8 q7) (pc' := 129) (ls' := [(0, .ref 0), (1, .int l1), (2, .int l2), (3, .int l3), (4, .int l4)]) (st' := []) (ps := [(q7 0 40) = (-1)]) rfl ⟨c8, trivial⟩ ?_
          exact p_X8_from_J129 hV n res hP kont39 hk39 q7 l1 l2 l3 l4 h
        · rw [if_neg c8] at h
          by_cases g9 : ((40 * (q7 0 40)) + (q7 0 42)) < 0 ∨ 320 ≤ ((40 * (q7 0 40)) + (q7 0 42)).toNatClampNeg
          · rw [if_pos g9] at h; cases h
          rw [if_neg g9] at h
          by_cases g10 : ((40 * (q7 0 40)) + (q7 0 42)) < 0 ∨ 320 ≤ ((40 * (q7 0 40)) + (q7 0 42)).toNatClampNeg
          · rw [if_pos g10] at h; cases h
          rw [if_neg g10] at h
          refine hV.run 21 [0] (ws' := wX8 (sC q7 24 (upd (q7 24) ((40 * (q7 0 40)) + (q7 0 42)).toNatClampNeg ((q7 24 ((40 * (q7 0 40)) + (q7 0 42)).toNatClampNeg) ||| (1 <<< ((q7 0 41) &&& 31)))))) (pc' := 129) (ls' := [(0, .ref 0), (1, .int l1), (2, .int l2), (3, .int l3), (4, .int l4)]) (st' := []) (ps := [¬ (q7 0 40) = (-1), vp_in ((40 * (q7 0 40)) + (q7 0 42)) 320, vp_in ((40 * (q7 0 40)) + (q7 0 42)) 320]) rfl ⟨c8, g9, g10, trivial⟩ ?_
          exact p_X8_from_J129 hV n res hP kont39 hk39 (sC q7 24 (upd (q7 24) ((40 * (q7 0 40)) + (q7 0 42)).toNatClampNeg ((q7 24 ((40 * (q7 0 40)) + (q7 0 42)).toNatClampNeg) ||| (1 <<< ((q7 0 41) &&& 31))))) l1 l2 l3 l4 h
      · rw [if_neg c5] at h
        refine hV.run 2 [0] (ws' := wX8 q4.2) (pc' := 133) (ls' := [(0, .ref 0), (1, .int l1), (2, .int l2), (3, .int l3), (4, .int l4)]) (st' := []) (ps := [(b2i q4.1) = 0]) rfl ⟨(b2i_f c5), trivial⟩ ?_
        exact p_X8_from_J133 hV n res hP kont39 hk39 q4.2 l1 l2 l3 l4 h
    · rw [if_neg c2] at h
      refine hV.run 4 [0, 1] (ws' := wX8 σ) (pc' := 139) (ls' := [(0, .ref 0), (1, .int l1), (2, .int l2), (3, .int l3), (4, .int l4)]) (st' := []) (ps := [¬ s0 ≤ s1, ¬ (σ 0 48) = 0]) rfl ⟨c1, c2, trivial⟩ ?_
      refine hV.pick [0, 1, 2] (ls' := [(0, .ref 0), (1, .int l1), (2, .int l2)]) rfl ?_
      exact p_X8_from_J139 hV n res hP kont9 hk9 σ l1 l2 h
def X8_from_B39 (n : Nat) (kont9 : am_M → Int32 → Int32 → Option am_M) (kont39 : am_M → Int32 → Int32 → Int32 → Int32 → Option am_M) (σ : am_M) (l1 : Int32) (l2 : Int32) (l3 : Int32) (l4 : Int32) : Option am_M := if l3 = 0 then (X8_from_J53 n kont9 kont39 σ l1 l2 l3 l4 1 l4) else (X8_from_J53 n kont9 kont39 σ l1 l2 l3 l4 (σ 0 3) l4)
def X8_from_L39 (n : Nat) (kont9 : am_M → Int32 → Int32 → Option am_M) : Nat → am_M → Int32 → Int32 → Int32 → Int32 → Option am_M
 | 0 => fun _ _ _ _ _ => none
 | k + 1 => fun σ l1 l2 l3 l4 => X8_from_B39 n kont9 (X8_from_L39 n kont9 k) σ l1 l2 l3 l4
set_option maxRecDepth 100000 in
set_option maxHeartbeats 4000000 in
theorem p_X8_from_B39 {l : Launch} {Post : Option Value → am_W → Prop} {V : am_VT} (hV : am_B l RX8 false 10 (am_cdT' tX8_from) (am_rfL rfX8) none Post 36 V) (n : Nat) (res : am_M) (hP : Post none (wX8 res)) (kont9 : am_M → Int32 → Int32 → Option am_M) (hk9 : ∀ (σ : am_M) (l1 : Int32) (l2 : Int32), kont9 σ l1 l2 = some res → V (wX8 σ) 9 [(0, .ref 0), (1, .int l1), (2, .int l2)] []) (kont39 : am_M → Int32 → Int32 → Int32 → Int32 → Option am_M) (hk39 : ∀ (σ : am_M) (l1 : Int32) (l2 : Int32) (l3 : Int32) (l4 : Int32), kont39 σ l1 l2 l3 l4 = some res → V (wX8 σ) 39 [(0, .ref 0), (1, .int l1), (2, .int l2), (3, .int l3), (4, .int l4)] []) (σ : am_M) (l1 : Int32) (l2 : Int32) (l3 : Int32) (l4 : Int32) (h : X8_from_B39 n kont9 kont39 σ l1 l2 l3 l4 = some res) : V (wX8 σ) 39 [(0, .ref 0), (1, .int l1), (2, .int l2), (3, .int l3), (4, .int l4)] [] := by
  unfold X8_from_B39 at h
  by_cases c1 : l3 = 0
  · rw [if_pos c1] at h
    refine hV.run 4 [1] (ws' := wX8 σ) (pc' := 53) (ls' := [(0, .ref 0), (1, .int l1), (2, .int l2), (3, .int l3), (4, .int l4)]) (st' := [.int 1, .int l4]) (ps := [l3 = 0]) rfl ⟨c1, trivial⟩ ?_
    exact p_X8_from_J53 hV n res hP kont9 hk9 kont39 hk39 σ l1 l2 l3 l4 1 l4 h
  · rw [if_neg c1] at h
    refine hV.run 6 [0] (ws' := wX8 σ) (pc' := 53) (ls' := [(0, .ref 0), (1, .int l1), (2, .int l2), (3, .int l3), (4, .int l4)]) (st' := [.int (σ 0 3), .int l4]) (ps := [¬ l3 = 0]) rfl ⟨c1, trivial⟩ ?_
    exact p_X8_from_J53 hV n res hP kont9 hk9 kont39 hk39 σ l1 l2 l3 l4 (σ 0 3) l4 h
theorem p_X8_from_L39 {l : Launch} {Post : Option Value → am_W → Prop} {V : am_VT} (hV : am_B l RX8 false 10 (am_cdT' tX8_from) (am_rfL rfX8) none Post 36 V) (n : Nat) (res : am_M) (hP : Post none (wX8 res)) (kont9 : am_M → Int32 → Int32 → Option am_M) (hk9 : ∀ (σ : am_M) (l1 : Int32) (l2 : Int32), kont9 σ l1 l2 = some res → V (wX8 σ) 9 [(0, .ref 0), (1, .int l1), (2, .int l2)] []) : ∀ (k : Nat) (σ : am_M) (l1 : Int32) (l2 : Int32) (l3 : Int32) (l4 : Int32) (h : X8_from_L39 n kont9 k σ l1 l2 l3 l4 = some res), V (wX8 σ) 39 [(0, .ref 0), (1, .int l1), (2, .int l2), (3, .int l3), (4, .int l4)] [] := by
  intro k
  induction k with
  | zero => intro σ l1 l2 l3 l4 h; cases h
  | succ k ih => intro σ l1 l2 l3 l4 h; exact p_X8_from_B39 hV n res hP kont9 hk9 _ ih σ l1 l2 l3 l4 h
def X8_from_B9 (n : Nat) (kont9 : am_M → Int32 → Int32 → Option am_M) (σ : am_M) (l1 : Int32) (l2 : Int32) : Option am_M := if (σ 0 3) ≤ l2 then (some σ) else (if (σ 0 48) = 0 then (X8_bring n σ l1).bind (fun q3 => (X8_isAt q3 l2 4).bind (fun q4 => X8_from_L39 n kont9 n q3 l1 l2 (b2i q4) 0)) else (some σ))
def X8_from_L9 (n : Nat) : Nat → am_M → Int32 → Int32 → Option am_M
 | 0 => fun _ _ _ => none
 | k + 1 => fun σ l1 l2 => X8_from_B9 n (X8_from_L9 n k) σ l1 l2
set_option maxRecDepth 100000 in
set_option maxHeartbeats 4000000 in
theorem p_X8_from_B9 {l : Launch} {Post : Option Value → am_W → Prop} {V : am_VT} (hV : am_B l RX8 false 10 (am_cdT' tX8_from) (am_rfL rfX8) none Post 36 V) (n : Nat) (res : am_M) (hP : Post none (wX8 res)) (kont9 : am_M → Int32 → Int32 → Option am_M) (hk9 : ∀ (σ : am_M) (l1 : Int32) (l2 : Int32), kont9 σ l1 l2 = some res → V (wX8 σ) 9 [(0, .ref 0), (1, .int l1), (2, .int l2)] []) (σ : am_M) (l1 : Int32) (l2 : Int32) (h : X8_from_B9 n kont9 σ l1 l2 = some res) : V (wX8 σ) 9 [(0, .ref 0), (1, .int l1), (2, .int l2)] [] := by
  unfold X8_from_B9 at h
  by_cases c1 : (σ 0 3) ≤ l2
  · rw [if_pos c1] at h
    refine hV.run 4 [1] (ws' := wX8 σ) (pc' := 145) (ls' := [(0, .ref 0), (1, .int l1), (2, .int l2)]) (st' := []) (ps := [(σ 0 3) ≤ l2]) rfl ⟨c1, trivial⟩ ?_
    cases h
    exact hV.rv rfl rfl rfl hP
  · rw [if_neg c1] at h
    by_cases c2 : (σ 0 48) = 0
    · rw [if_pos c2] at h
      refine hV.run 9 [0, 0] (ws' := wX8 σ) (pc' := 26) (ls' := [(0, .ref 0), (1, .int l1), (2, .int l2)]) (st' := [.int l1, .ref 0]) (ps := [¬ (σ 0 3) ≤ l2, (σ 0 48) = 0]) rfl ⟨c1, c2, trivial⟩ ?_
      obtain ⟨q3, hq3, h⟩ := am_bind h
      refine hV.cOv (as := [.int l1]) (rest := []) (st := [.int l1, .ref 0]) (ws2 := wX8 q3) (pc2 := 29) kX8_444 (c_X8_bring l n σ l1 q3 hq3) rfl rfl rfl rfl rfl rfl rfl rfl rfl ?_
      refine hV.run 3 [] (ws' := wX8 q3) (pc' := 32) (ls' := [(0, .ref 0), (1, .int l1), (2, .int l2)]) (st' := [.int 4, .int l2, .ref 0]) (ps := []) rfl trivial ?_
      obtain ⟨q4, hq4, h⟩ := am_bind h
      refine hV.cOi (as := [.int l2, .int 4]) (rest := []) (st := [.int 4, .int l2, .ref 0]) (ws2 := wX8 q3) (pc2 := 35) kX8_375 (c_X8_isAt l q3 l2 4 q4 hq4) rfl rfl rfl rfl rfl rfl rfl rfl rfl ?_
      refine hV.run 3 [] (ws' := wX8 q3) (pc' := 39) (ls' := [(4, .int 0), (3, .int (b2i q4)), (0, .ref 0), (1, .int l1), (2, .int l2)]) (st' := []) (ps := []) rfl trivial ?_
      refine hV.pick [2, 3, 4, 1, 0] (ls' := [(0, .ref 0), (1, .int l1), (2, .int l2), (3, .int (b2i q4)), (4, .int 0)]) rfl ?_
      exact p_X8_from_L39 hV n res hP kont9 hk9 n q3 l1 l2 (b2i q4) 0 h
    · rw [if_neg c2] at h
      refine hV.run 7 [0, 1] (ws' := wX8 σ) (pc' := 145) (ls' := [(0, .ref 0), (1, .int l1), (2, .int l2)]) (st' := []) (ps := [¬ (σ 0 3) ≤ l2, ¬ (σ 0 48) = 0]) rfl ⟨c1, c2, trivial⟩ ?_
      cases h
      exact hV.rv rfl rfl rfl hP
theorem p_X8_from_L9 {l : Launch} {Post : Option Value → am_W → Prop} {V : am_VT} (hV : am_B l RX8 false 10 (am_cdT' tX8_from) (am_rfL rfX8) none Post 36 V) (n : Nat) (res : am_M) (hP : Post none (wX8 res)) : ∀ (k : Nat) (σ : am_M) (l1 : Int32) (l2 : Int32) (h : X8_from_L9 n k σ l1 l2 = some res), V (wX8 σ) 9 [(0, .ref 0), (1, .int l1), (2, .int l2)] [] := by
  intro k
  induction k with
  | zero => intro σ l1 l2 h; cases h
  | succ k ih => intro σ l1 l2 h; exact p_X8_from_B9 hV n res hP _ ih σ l1 l2 h
def X8_from (n : Nat) (σ : am_M) (a1 : Int32) : Option am_M := if a1 < 0 ∨ 201 ≤ a1.toNatClampNeg then none else (X8_from_L9 n n (sC σ 23 (upd (σ 23) a1.toNatClampNeg 1)) a1 0)
set_option maxRecDepth 100000 in
set_option maxHeartbeats 4000000 in
theorem c_X8_from (l : Launch) (n : Nat) (σ : am_M) (a1 : Int32) (res : am_M) (h : X8_from n σ a1 = some res) : am_Con l yX8_from cX8_from 5 none 10 [.ref 0, .int a1] (wX8 σ) (fun (r : Option Value) (w : am_W) => r = none ∧ w = (wX8 res)) := by
  refine am_metn (n0 := 36) (own := RX8) (cd := am_cdT' tX8_from) (rf := am_rfL rfX8) (ini := false) rfl (by decide +kernel) rfl (by decide) dX8_from rfX8_ok (Nat.le_of_ble_eq_true rfl) ?_
  intro V hV
  have hP : (fun (r : Option Value) (w : am_W) => r = none ∧ w = (wX8 res)) none (wX8 res) := ⟨rfl, rfl⟩
  show V (wX8 σ) 0 [(0, .ref 0), (1, .int a1)] []
  unfold X8_from at h
  by_cases g1 : a1 < 0 ∨ 201 ≤ a1.toNatClampNeg
  · rw [if_pos g1] at h; cases h
  rw [if_neg g1] at h
  refine hV.run 7 [] (ws' := wX8 (sC σ 23 (upd (σ 23) a1.toNatClampNeg 1))) (pc' := 9) (ls' := [(2, .int 0), (0, .ref 0), (1, .int a1)]) (st' := []) (ps := [vp_in a1 201, (1 : Int32) = 0 ∨ (1 : Int32) = 1]) rfl ⟨g1, (Or.inr rfl), trivial⟩ ?_
  refine hV.pick [1, 2, 0] (ls' := [(0, .ref 0), (1, .int a1), (2, .int 0)]) rfl ?_
  exact p_X8_from_L9 hV n res hP n (sC σ 23 (upd (σ 23) a1.toNatClampNeg 1)) a1 0 h

def X8_go_J73 (n : Nat) (σ : am_M) : Option (Bool × am_M) := if (σ 0 48) = 0 then (some (true, σ)) else (some (false, σ))
set_option maxRecDepth 100000 in
set_option maxHeartbeats 4000000 in
theorem p_X8_go_J73 {l : Launch} {Post : Option Value → am_W → Prop} {V : am_VT} (hV : am_B l RX8 false 11 (am_cdT' tX8_go) (am_rfL rfX8) (some .boolean) Post 36 V) (n : Nat) (res : (Bool × am_M)) (hP : Post (some (.int (b2i res.1))) (wX8 res.2)) (σ : am_M) (h : X8_go_J73 n σ = some res) : V (wX8 σ) 73 [(0, .ref 0)] [] := by
  unfold X8_go_J73 at h
  by_cases c1 : (σ 0 48) = 0
  · rw [if_pos c1] at h
    refine hV.run 5 [0] (ws' := wX8 σ) (pc' := 85) (ls' := [(0, .ref 0)]) (st' := [.int 1]) (ps := [(σ 0 48) = 0]) rfl ⟨c1, trivial⟩ ?_
    cases h
    exact hV.rz rfl rfl rfl (Or.inr rfl) hP
  · rw [if_neg c1] at h
    refine hV.run 4 [1] (ws' := wX8 σ) (pc' := 85) (ls' := [(0, .ref 0)]) (st' := [.int 0]) (ps := [¬ (σ 0 48) = 0]) rfl ⟨c1, trivial⟩ ?_
    cases h
    exact hV.rz rfl rfl rfl (Or.inl rfl) hP
def X8_go_B47 (n : Nat) (kont47 : am_M → Int32 → Option (Bool × am_M)) (σ : am_M) (l1 : Int32) : Option (Bool × am_M) := if (σ 0 46) ≤ l1 then (X8_go_J73 n σ) else (if (σ 0 48) = 0 then (X8_from n σ l1).bind (fun q3 => kont47 q3 (l1 + 1)) else (X8_go_J73 n σ))
def X8_go_L47 (n : Nat) : Nat → am_M → Int32 → Option (Bool × am_M)
 | 0 => fun _ _ => none
 | k + 1 => fun σ l1 => X8_go_B47 n (X8_go_L47 n k) σ l1
set_option maxRecDepth 100000 in
set_option maxHeartbeats 4000000 in
theorem p_X8_go_B47 {l : Launch} {Post : Option Value → am_W → Prop} {V : am_VT} (hV : am_B l RX8 false 11 (am_cdT' tX8_go) (am_rfL rfX8) (some .boolean) Post 36 V) (n : Nat) (res : (Bool × am_M)) (hP : Post (some (.int (b2i res.1))) (wX8 res.2)) (kont47 : am_M → Int32 → Option (Bool × am_M)) (hk47 : ∀ (σ : am_M) (l1 : Int32), kont47 σ l1 = some res → V (wX8 σ) 47 [(0, .ref 0), (1, .int l1)] []) (σ : am_M) (l1 : Int32) (h : X8_go_B47 n kont47 σ l1 = some res) : V (wX8 σ) 47 [(0, .ref 0), (1, .int l1)] [] := by
  unfold X8_go_B47 at h
  by_cases c1 : (σ 0 46) ≤ l1
  · rw [if_pos c1] at h
    refine hV.run 4 [1] (ws' := wX8 σ) (pc' := 73) (ls' := [(0, .ref 0), (1, .int l1)]) (st' := []) (ps := [(σ 0 46) ≤ l1]) rfl ⟨c1, trivial⟩ ?_
    refine hV.pick [0] (ls' := [(0, .ref 0)]) rfl ?_
    exact p_X8_go_J73 hV n res hP σ h
  · rw [if_neg c1] at h
    by_cases c2 : (σ 0 48) = 0
    · rw [if_pos c2] at h
      refine hV.run 9 [0, 0] (ws' := wX8 σ) (pc' := 64) (ls' := [(0, .ref 0), (1, .int l1)]) (st' := [.int l1, .ref 0]) (ps := [¬ (σ 0 46) ≤ l1, (σ 0 48) = 0]) rfl ⟨c1, c2, trivial⟩ ?_
      obtain ⟨q3, hq3, h⟩ := am_bind h
      refine hV.cOv (as := [.int l1]) (rest := []) (st := [.int l1, .ref 0]) (ws2 := wX8 q3) (pc2 := 67) kX8_458 (c_X8_from l n σ l1 q3 hq3) rfl rfl rfl rfl rfl rfl rfl rfl rfl ?_
      refine hV.run 2 [] (ws' := wX8 q3) (pc' := 47) (ls' := [(1, .int (l1 + 1)), (0, .ref 0)]) (st' := []) (ps := []) rfl trivial ?_
      refine hV.pick [1, 0] (ls' := [(0, .ref 0), (1, .int (l1 + 1))]) rfl ?_
      exact hk47 q3 (l1 + 1) h
    · rw [if_neg c2] at h
      refine hV.run 7 [0, 1] (ws' := wX8 σ) (pc' := 73) (ls' := [(0, .ref 0), (1, .int l1)]) (st' := []) (ps := [¬ (σ 0 46) ≤ l1, ¬ (σ 0 48) = 0]) rfl ⟨c1, c2, trivial⟩ ?_
      refine hV.pick [0] (ls' := [(0, .ref 0)]) rfl ?_
      exact p_X8_go_J73 hV n res hP σ h
theorem p_X8_go_L47 {l : Launch} {Post : Option Value → am_W → Prop} {V : am_VT} (hV : am_B l RX8 false 11 (am_cdT' tX8_go) (am_rfL rfX8) (some .boolean) Post 36 V) (n : Nat) (res : (Bool × am_M)) (hP : Post (some (.int (b2i res.1))) (wX8 res.2)) : ∀ (k : Nat) (σ : am_M) (l1 : Int32) (h : X8_go_L47 n k σ l1 = some res), V (wX8 σ) 47 [(0, .ref 0), (1, .int l1)] [] := by
  intro k
  induction k with
  | zero => intro σ l1 h; cases h
  | succ k ih => intro σ l1 h; exact p_X8_go_B47 hV n res hP _ ih σ l1 h
def X8_go_B17 (n : Nat) (kont17 : am_M → Int32 → Option (Bool × am_M)) (σ : am_M) (l1 : Int32) : Option (Bool × am_M) := if 320 ≤ l1 then (X8_begin n σ).bind (fun q2 => (X8_keep n q2).bind (fun q3 => X8_go_L47 n n q3 0)) else (if l1 < 0 ∨ 320 ≤ l1.toNatClampNeg then none else (kont17 (sC σ 24 (upd (σ 24) l1.toNatClampNeg 0)) (l1 + 1)))
def X8_go_L17 (n : Nat) : Nat → am_M → Int32 → Option (Bool × am_M)
 | 0 => fun _ _ => none
 | k + 1 => fun σ l1 => X8_go_B17 n (X8_go_L17 n k) σ l1
set_option maxRecDepth 100000 in
set_option maxHeartbeats 4000000 in
theorem p_X8_go_B17 {l : Launch} {Post : Option Value → am_W → Prop} {V : am_VT} (hV : am_B l RX8 false 11 (am_cdT' tX8_go) (am_rfL rfX8) (some .boolean) Post 36 V) (n : Nat) (res : (Bool × am_M)) (hP : Post (some (.int (b2i res.1))) (wX8 res.2)) (kont17 : am_M → Int32 → Option (Bool × am_M)) (hk17 : ∀ (σ : am_M) (l1 : Int32), kont17 σ l1 = some res → V (wX8 σ) 17 [(0, .ref 0), (1, .int l1)] []) (σ : am_M) (l1 : Int32) (h : X8_go_B17 n kont17 σ l1 = some res) : V (wX8 σ) 17 [(0, .ref 0), (1, .int l1)] [] := by
  unfold X8_go_B17 at h
  by_cases c1 : 320 ≤ l1
  · rw [if_pos c1] at h
    refine hV.run 4 [1] (ws' := wX8 σ) (pc' := 38) (ls' := [(0, .ref 0), (1, .int l1)]) (st' := [.ref 0]) (ps := [320 ≤ l1]) rfl ⟨c1, trivial⟩ ?_
    obtain ⟨q2, hq2, h⟩ := am_bind h
    refine hV.cOv (as := []) (rest := []) (st := [.ref 0]) (ws2 := wX8 q2) (pc2 := 41) kX8_456 (c_X8_begin l n σ q2 hq2) rfl rfl rfl rfl rfl rfl rfl rfl rfl ?_
    refine hV.run 1 [] (ws' := wX8 q2) (pc' := 42) (ls' := [(0, .ref 0), (1, .int l1)]) (st' := [.ref 0]) (ps := []) rfl trivial ?_
    obtain ⟨q3, hq3, h⟩ := am_bind h
    refine hV.cOv (as := []) (rest := []) (st := [.ref 0]) (ws2 := wX8 q3) (pc2 := 45) kX8_453 (c_X8_keep l n q2 q3 hq3) rfl rfl rfl rfl rfl rfl rfl rfl rfl ?_
    refine hV.run 2 [] (ws' := wX8 q3) (pc' := 47) (ls' := [(1, .int 0), (0, .ref 0)]) (st' := []) (ps := []) rfl trivial ?_
    refine hV.pick [1, 0] (ls' := [(0, .ref 0), (1, .int 0)]) rfl ?_
    exact p_X8_go_L47 hV n res hP n q3 0 h
  · rw [if_neg c1] at h
    by_cases g4 : l1 < 0 ∨ 320 ≤ l1.toNatClampNeg
    · rw [if_pos g4] at h; cases h
    rw [if_neg g4] at h
    refine hV.run 10 [0] (ws' := wX8 (sC σ 24 (upd (σ 24) l1.toNatClampNeg 0))) (pc' := 17) (ls' := [(1, .int (l1 + 1)), (0, .ref 0)]) (st' := []) (ps := [¬ 320 ≤ l1, vp_in l1 320]) rfl ⟨c1, g4, trivial⟩ ?_
    refine hV.pick [1, 0] (ls' := [(0, .ref 0), (1, .int (l1 + 1))]) rfl ?_
    exact hk17 (sC σ 24 (upd (σ 24) l1.toNatClampNeg 0)) (l1 + 1) h
theorem p_X8_go_L17 {l : Launch} {Post : Option Value → am_W → Prop} {V : am_VT} (hV : am_B l RX8 false 11 (am_cdT' tX8_go) (am_rfL rfX8) (some .boolean) Post 36 V) (n : Nat) (res : (Bool × am_M)) (hP : Post (some (.int (b2i res.1))) (wX8 res.2)) : ∀ (k : Nat) (σ : am_M) (l1 : Int32) (h : X8_go_L17 n k σ l1 = some res), V (wX8 σ) 17 [(0, .ref 0), (1, .int l1)] [] := by
  intro k
  induction k with
  | zero => intro σ l1 h; cases h
  | succ k ih => intro σ l1 h; exact p_X8_go_B17 hV n res hP _ ih σ l1 h
def X8_go (n : Nat) (σ : am_M) : Option (Bool × am_M) := X8_go_L17 n n (sC σ 0 (am_u (am_u (am_u (σ 0) 35 (-1)) 46 0) 48 0)) 0
set_option maxRecDepth 100000 in
set_option maxHeartbeats 4000000 in
theorem c_X8_go (l : Launch) (n : Nat) (σ : am_M) (res : (Bool × am_M)) (h : X8_go n σ = some res) : am_Con l yX8_go cX8_go 2 (some .boolean) 11 [.ref 0] (wX8 σ) (fun (r : Option Value) (w : am_W) => r = (some (.int (b2i res.1))) ∧ w = (wX8 res.2)) := by
  refine am_metn (n0 := 36) (own := RX8) (cd := am_cdT' tX8_go) (rf := am_rfL rfX8) (ini := false) rfl (by decide +kernel) rfl (by decide) dX8_go rfX8_ok (Nat.le_of_ble_eq_true rfl) ?_
  intro V hV
  have hP : (fun (r : Option Value) (w : am_W) => r = (some (.int (b2i res.1))) ∧ w = (wX8 res.2)) (some (.int (b2i res.1))) (wX8 res.2) := ⟨rfl, rfl⟩
  show V (wX8 σ) 0 [(0, .ref 0)] []
  unfold X8_go at h
  refine hV.run 11 [] (ws' := wX8 (sC σ 0 (am_u (am_u (am_u (σ 0) 35 (-1)) 46 0) 48 0))) (pc' := 17) (ls' := [(1, .int 0), (0, .ref 0)]) (st' := []) (ps := [(0 : Int32) = 0 ∨ (0 : Int32) = 1]) rfl ⟨(Or.inl rfl), trivial⟩ ?_
  refine hV.pick [1, 0] (ls' := [(0, .ref 0), (1, .int 0)]) rfl ?_
  exact p_X8_go_L17 hV n res hP n (sC σ 0 (am_u (am_u (am_u (σ 0) 35 (-1)) 46 0) 48 0)) 0 h

def X8_kindNow_J53 (n : Nat) (σ : am_M) (kont6 : Int32 → Int32 → Int32 → Option Int32) (l1 : Int32) (l3 : Int32) (s0 : Int32) : Option Int32 := kont6 l1 s0 (l3 + 1)
set_option maxRecDepth 100000 in
set_option maxHeartbeats 4000000 in
theorem p_X8_kindNow_J53 {l : Launch} {Post : Option Value → am_W → Prop} {V : am_VT} (hV : am_B l RX8 false 2 (am_cdT' tX8_kindNow) (am_rfL rfX8) (some .int) Post 36 V) (n : Nat) (σ : am_M) (res : Int32) (hP : Post (some (.int res)) (wX8 σ)) (kont6 : Int32 → Int32 → Int32 → Option Int32) (hk6 : ∀ (l1 : Int32) (l2 : Int32) (l3 : Int32), kont6 l1 l2 l3 = some res → V (wX8 σ) 6 [(0, .ref 0), (1, .int l1), (2, .int l2), (3, .int l3)] []) (l1 : Int32) (l3 : Int32) (s0 : Int32) (h : X8_kindNow_J53 n σ kont6 l1 l3 s0 = some res) : V (wX8 σ) 53 [(0, .ref 0), (1, .int l1), (3, .int l3)] [.int s0] := by
  unfold X8_kindNow_J53 at h
  refine hV.run 3 [] (ws' := wX8 σ) (pc' := 6) (ls' := [(3, .int (l3 + 1)), (2, .int s0), (0, .ref 0), (1, .int l1)]) (st' := []) (ps := []) rfl trivial ?_
  refine hV.pick [2, 3, 1, 0] (ls' := [(0, .ref 0), (1, .int l1), (2, .int s0), (3, .int (l3 + 1))]) rfl ?_
  exact hk6 l1 s0 (l3 + 1) h
def X8_kindNow_J48 (n : Nat) (σ : am_M) (kont6 : Int32 → Int32 → Int32 → Option Int32) (l1 : Int32) (l3 : Int32) : Option Int32 := X8_kindNow_J53 n σ kont6 l1 l3 1
set_option maxRecDepth 100000 in
set_option maxHeartbeats 4000000 in
theorem p_X8_kindNow_J48 {l : Launch} {Post : Option Value → am_W → Prop} {V : am_VT} (hV : am_B l RX8 false 2 (am_cdT' tX8_kindNow) (am_rfL rfX8) (some .int) Post 36 V) (n : Nat) (σ : am_M) (res : Int32) (hP : Post (some (.int res)) (wX8 σ)) (kont6 : Int32 → Int32 → Int32 → Option Int32) (hk6 : ∀ (l1 : Int32) (l2 : Int32) (l3 : Int32), kont6 l1 l2 l3 = some res → V (wX8 σ) 6 [(0, .ref 0), (1, .int l1), (2, .int l2), (3, .int l3)] []) (l1 : Int32) (l3 : Int32) (h : X8_kindNow_J48 n σ kont6 l1 l3 = some res) : V (wX8 σ) 48 [(0, .ref 0), (1, .int l1), (3, .int l3)] [] := by
  unfold X8_kindNow_J48 at h
  refine hV.run 2 [] (ws' := wX8 σ) (pc' := 53) (ls' := [(0, .ref 0), (1, .int l1), (3, .int l3)]) (st' := [.int 1]) (ps := []) rfl trivial ?_
  exact p_X8_kindNow_J53 hV n σ res hP kont6 hk6 l1 l3 1 h
def X8_kindNow_J33 (n : Nat) (σ : am_M) (kont6 : Int32 → Int32 → Int32 → Option Int32) (l2 : Int32) (l3 : Int32) (s0 : Int32) : Option Int32 := if l2 = 0 then (X8_own σ l3 1).bind (fun q2 => if q2 = 1 then (X8_kindNow_J48 n σ kont6 s0 l3) else (X8_kindNow_J53 n σ kont6 s0 l3 0)) else (X8_kindNow_J48 n σ kont6 s0 l3)
set_option maxRecDepth 100000 in
set_option maxHeartbeats 4000000 in
theorem p_X8_kindNow_J33 {l : Launch} {Post : Option Value → am_W → Prop} {V : am_VT} (hV : am_B l RX8 false 2 (am_cdT' tX8_kindNow) (am_rfL rfX8) (some .int) Post 36 V) (n : Nat) (σ : am_M) (res : Int32) (hP : Post (some (.int res)) (wX8 σ)) (kont6 : Int32 → Int32 → Int32 → Option Int32) (hk6 : ∀ (l1 : Int32) (l2 : Int32) (l3 : Int32), kont6 l1 l2 l3 = some res → V (wX8 σ) 6 [(0, .ref 0), (1, .int l1), (2, .int l2), (3, .int l3)] []) (l2 : Int32) (l3 : Int32) (s0 : Int32) (h : X8_kindNow_J33 n σ kont6 l2 l3 s0 = some res) : V (wX8 σ) 33 [(0, .ref 0), (2, .int l2), (3, .int l3)] [.int s0] := by
  unfold X8_kindNow_J33 at h
  by_cases c1 : l2 = 0
  · rw [if_pos c1] at h
    refine hV.run 6 [0] (ws' := wX8 σ) (pc' := 41) (ls' := [(1, .int s0), (0, .ref 0), (2, .int l2), (3, .int l3)]) (st' := [.int 1, .int l3, .ref 0]) (ps := [l2 = 0]) rfl ⟨c1, trivial⟩ ?_
    obtain ⟨q2, hq2, h⟩ := am_bind h
    refine hV.cOi (as := [.int l3, .int 1]) (rest := []) (st := [.int 1, .int l3, .ref 0]) (ws2 := wX8 σ) (pc2 := 44) kX8_337 (c_X8_own l σ l3 1 q2 hq2) rfl rfl rfl rfl rfl rfl rfl rfl rfl ?_
    by_cases c3 : q2 = 1
    · rw [if_pos c3] at h
      refine hV.run 2 [0] (ws' := wX8 σ) (pc' := 48) (ls' := [(1, .int s0), (0, .ref 0), (2, .int l2), (3, .int l3)]) (st' := []) (ps := [q2 = 1]) rfl ⟨c3, trivial⟩ ?_
      refine hV.pick [1, 0, 3] (ls' := [(0, .ref 0), (1, .int s0), (3, .int l3)]) rfl ?_
      exact p_X8_kindNow_J48 hV n σ res hP kont6 hk6 s0 l3 h
    · rw [if_neg c3] at h
      refine hV.run 3 [1] (ws' := wX8 σ) (pc' := 53) (ls' := [(1, .int s0), (0, .ref 0), (2, .int l2), (3, .int l3)]) (st' := [.int 0]) (ps := [¬ q2 = 1]) rfl ⟨c3, trivial⟩ ?_
      refine hV.pick [1, 0, 3] (ls' := [(0, .ref 0), (1, .int s0), (3, .int l3)]) rfl ?_
      exact p_X8_kindNow_J53 hV n σ res hP kont6 hk6 s0 l3 0 h
  · rw [if_neg c1] at h
    refine hV.run 3 [1] (ws' := wX8 σ) (pc' := 48) (ls' := [(1, .int s0), (0, .ref 0), (2, .int l2), (3, .int l3)]) (st' := []) (ps := [¬ l2 = 0]) rfl ⟨c1, trivial⟩ ?_
    refine hV.pick [1, 0, 3] (ls' := [(0, .ref 0), (1, .int s0), (3, .int l3)]) rfl ?_
    exact p_X8_kindNow_J48 hV n σ res hP kont6 hk6 s0 l3 h
def X8_kindNow_J32 (n : Nat) (σ : am_M) (kont6 : Int32 → Int32 → Int32 → Option Int32) (l2 : Int32) (l3 : Int32) : Option Int32 := X8_kindNow_J33 n σ kont6 l2 l3 0
set_option maxRecDepth 100000 in
set_option maxHeartbeats 4000000 in
theorem p_X8_kindNow_J32 {l : Launch} {Post : Option Value → am_W → Prop} {V : am_VT} (hV : am_B l RX8 false 2 (am_cdT' tX8_kindNow) (am_rfL rfX8) (some .int) Post 36 V) (n : Nat) (σ : am_M) (res : Int32) (hP : Post (some (.int res)) (wX8 σ)) (kont6 : Int32 → Int32 → Int32 → Option Int32) (hk6 : ∀ (l1 : Int32) (l2 : Int32) (l3 : Int32), kont6 l1 l2 l3 = some res → V (wX8 σ) 6 [(0, .ref 0), (1, .int l1), (2, .int l2), (3, .int l3)] []) (l2 : Int32) (l3 : Int32) (h : X8_kindNow_J32 n σ kont6 l2 l3 = some res) : V (wX8 σ) 32 [(0, .ref 0), (2, .int l2), (3, .int l3)] [] := by
  unfold X8_kindNow_J32 at h
  refine hV.run 1 [] (ws' := wX8 σ) (pc' := 33) (ls' := [(0, .ref 0), (2, .int l2), (3, .int l3)]) (st' := [.int 0]) (ps := []) rfl trivial ?_
  exact p_X8_kindNow_J33 hV n σ res hP kont6 hk6 l2 l3 0 h
def X8_kindNow_B6 (n : Nat) (σ : am_M) (kont6 : Int32 → Int32 → Int32 → Option Int32) (l1 : Int32) (l2 : Int32) (l3 : Int32) : Option Int32 := if (σ 0 3) ≤ l3 then (if l1 = 0 then (if l2 = 0 then (some 2) else (some 1)) else (some 0)) else (if l1 = 0 then (X8_kindNow_J32 n σ kont6 l2 l3) else (X8_own σ l3 0).bind (fun q5 => if q5 = (-1) then (X8_kindNow_J33 n σ kont6 l2 l3 1) else (X8_kindNow_J32 n σ kont6 l2 l3)))
def X8_kindNow_L6 (n : Nat) (σ : am_M) : Nat → Int32 → Int32 → Int32 → Option Int32
 | 0 => fun _ _ _ => none
 | k + 1 => fun l1 l2 l3 => X8_kindNow_B6 n σ (X8_kindNow_L6 n σ k) l1 l2 l3
set_option maxRecDepth 100000 in
set_option maxHeartbeats 4000000 in
theorem p_X8_kindNow_B6 {l : Launch} {Post : Option Value → am_W → Prop} {V : am_VT} (hV : am_B l RX8 false 2 (am_cdT' tX8_kindNow) (am_rfL rfX8) (some .int) Post 36 V) (n : Nat) (σ : am_M) (res : Int32) (hP : Post (some (.int res)) (wX8 σ)) (kont6 : Int32 → Int32 → Int32 → Option Int32) (hk6 : ∀ (l1 : Int32) (l2 : Int32) (l3 : Int32), kont6 l1 l2 l3 = some res → V (wX8 σ) 6 [(0, .ref 0), (1, .int l1), (2, .int l2), (3, .int l3)] []) (l1 : Int32) (l2 : Int32) (l3 : Int32) (h : X8_kindNow_B6 n σ kont6 l1 l2 l3 = some res) : V (wX8 σ) 6 [(0, .ref 0), (1, .int l1), (2, .int l2), (3, .int l3)] [] := by
  unfold X8_kindNow_B6 at h
  by_cases c1 : (σ 0 3) ≤ l3
  · rw [if_pos c1] at h
    by_cases c2 : l1 = 0
    · rw [if_pos c2] at h
      by_cases c3 : l2 = 0
      · rw [if_pos c3] at h
        refine hV.run 9 [1, 1, 1] (ws' := wX8 σ) (pc' := 77) (ls' := [(0, .ref 0), (1, .int l1), (2, .int l2), (3, .int l3)]) (st' := [.int 2]) (ps := [(σ 0 3) ≤ l3, l1 = 0, l2 = 0]) rfl ⟨c1, c2, c3, trivial⟩ ?_
        cases h
        exact hV.ri rfl rfl rfl hP
      · rw [if_neg c3] at h
        refine hV.run 10 [1, 1, 0] (ws' := wX8 σ) (pc' := 77) (ls' := [(0, .ref 0), (1, .int l1), (2, .int l2), (3, .int l3)]) (st' := [.int 1]) (ps := [(σ 0 3) ≤ l3, l1 = 0, ¬ l2 = 0]) rfl ⟨c1, c2, c3, trivial⟩ ?_
        cases h
        exact hV.ri rfl rfl rfl hP
    · rw [if_neg c2] at h
      refine hV.run 8 [1, 0] (ws' := wX8 σ) (pc' := 77) (ls' := [(0, .ref 0), (1, .int l1), (2, .int l2), (3, .int l3)]) (st' := [.int 0]) (ps := [(σ 0 3) ≤ l3, ¬ l1 = 0]) rfl ⟨c1, c2, trivial⟩ ?_
      cases h
      exact hV.ri rfl rfl rfl hP
  · rw [if_neg c1] at h
    by_cases c4 : l1 = 0
    · rw [if_pos c4] at h
      refine hV.run 6 [0, 1] (ws' := wX8 σ) (pc' := 32) (ls' := [(0, .ref 0), (1, .int l1), (2, .int l2), (3, .int l3)]) (st' := []) (ps := [¬ (σ 0 3) ≤ l3, l1 = 0]) rfl ⟨c1, c4, trivial⟩ ?_
      refine hV.pick [0, 2, 3] (ls' := [(0, .ref 0), (2, .int l2), (3, .int l3)]) rfl ?_
      exact p_X8_kindNow_J32 hV n σ res hP kont6 hk6 l2 l3 h
    · rw [if_neg c4] at h
      refine hV.run 9 [0, 0] (ws' := wX8 σ) (pc' := 21) (ls' := [(0, .ref 0), (1, .int l1), (2, .int l2), (3, .int l3)]) (st' := [.int 0, .int l3, .ref 0]) (ps := [¬ (σ 0 3) ≤ l3, ¬ l1 = 0]) rfl ⟨c1, c4, trivial⟩ ?_
      obtain ⟨q5, hq5, h⟩ := am_bind h
      refine hV.cOi (as := [.int l3, .int 0]) (rest := []) (st := [.int 0, .int l3, .ref 0]) (ws2 := wX8 σ) (pc2 := 24) kX8_337 (c_X8_own l σ l3 0 q5 hq5) rfl rfl rfl rfl rfl rfl rfl rfl rfl ?_
      by_cases c6 : q5 = (-1)
      · rw [if_pos c6] at h
        refine hV.run 4 [0] (ws' := wX8 σ) (pc' := 33) (ls' := [(0, .ref 0), (1, .int l1), (2, .int l2), (3, .int l3)]) (st' := [.int 1]) (ps := [q5 = (-1)]) rfl ⟨c6, trivial⟩ ?_
        refine hV.pick [0, 2, 3] (ls' := [(0, .ref 0), (2, .int l2), (3, .int l3)]) rfl ?_
        exact p_X8_kindNow_J33 hV n σ res hP kont6 hk6 l2 l3 1 h
      · rw [if_neg c6] at h
        refine hV.run 2 [1] (ws' := wX8 σ) (pc' := 32) (ls' := [(0, .ref 0), (1, .int l1), (2, .int l2), (3, .int l3)]) (st' := []) (ps := [¬ q5 = (-1)]) rfl ⟨c6, trivial⟩ ?_
        refine hV.pick [0, 2, 3] (ls' := [(0, .ref 0), (2, .int l2), (3, .int l3)]) rfl ?_
        exact p_X8_kindNow_J32 hV n σ res hP kont6 hk6 l2 l3 h
theorem p_X8_kindNow_L6 {l : Launch} {Post : Option Value → am_W → Prop} {V : am_VT} (hV : am_B l RX8 false 2 (am_cdT' tX8_kindNow) (am_rfL rfX8) (some .int) Post 36 V) (n : Nat) (σ : am_M) (res : Int32) (hP : Post (some (.int res)) (wX8 σ)) : ∀ (k : Nat) (l1 : Int32) (l2 : Int32) (l3 : Int32) (h : X8_kindNow_L6 n σ k l1 l2 l3 = some res), V (wX8 σ) 6 [(0, .ref 0), (1, .int l1), (2, .int l2), (3, .int l3)] [] := by
  intro k
  induction k with
  | zero => intro l1 l2 l3 h; cases h
  | succ k ih => intro l1 l2 l3 h; exact p_X8_kindNow_B6 hV n σ res hP _ ih l1 l2 l3 h
def X8_kindNow (n : Nat) (σ : am_M) : Option Int32 := X8_kindNow_L6 n σ n 1 0 0
set_option maxRecDepth 100000 in
set_option maxHeartbeats 4000000 in
theorem c_X8_kindNow (l : Launch) (n : Nat) (σ : am_M) (res : Int32) (h : X8_kindNow n σ = some res) : am_Con l yX8_kindNow cX8_kindNow 4 (some .int) 2 [.ref 0] (wX8 σ) (fun (r : Option Value) (w : am_W) => r = (some (.int res)) ∧ w = (wX8 σ)) := by
  refine am_metn (n0 := 36) (own := RX8) (cd := am_cdT' tX8_kindNow) (rf := am_rfL rfX8) (ini := false) rfl (by decide +kernel) rfl (by decide) dX8_kindNow rfX8_ok (Nat.le_of_ble_eq_true rfl) ?_
  intro V hV
  have hP : (fun (r : Option Value) (w : am_W) => r = (some (.int res)) ∧ w = (wX8 σ)) (some (.int res)) (wX8 σ) := ⟨rfl, rfl⟩
  show V (wX8 σ) 0 [(0, .ref 0)] []
  unfold X8_kindNow at h
  refine hV.run 6 [] (ws' := wX8 σ) (pc' := 6) (ls' := [(3, .int 0), (2, .int 0), (1, .int 1), (0, .ref 0)]) (st' := []) (ps := []) rfl trivial ?_
  refine hV.pick [3, 2, 1, 0] (ls' := [(0, .ref 0), (1, .int 1), (2, .int 0), (3, .int 0)]) rfl ?_
  exact p_X8_kindNow_L6 hV n σ res hP n 1 0 0 h

