def X4_toldOf (σ : am_M) (a1 : Int32) (a2 : Int32) : Int32 := (jat 20800 (σ 20) (((a1 * 104) + (a2 * 13)) + 9))
set_option maxRecDepth 100000 in
set_option maxHeartbeats 4000000 in
theorem c_X4_toldOf (l : Launch) (σ : am_M) (τ : Nat → Int64) (x : Nat) (a1 : Int32) (a2 : Int32) : am_Con l yX4_toldOf cX4_toldOf 3 (some .int) 2 [.ref 0, .int a1, .int a2] (wX4 x σ τ) (fun (r : Option Value) (w : am_W) => r = (some (.int (X4_toldOf σ a1 a2))) ∧ w = (wX4 x σ τ)) := by
  obtain ⟨res, h⟩ : ∃ res, (X4_toldOf σ a1 a2) = res := ⟨_, rfl⟩
  rw [h]
  refine am_metn (n0 := 28) (own := RX4) (cd := am_cdT' tX4_toldOf) (rf := am_rfL rfX4) (ini := false) rfl (by decide +kernel) rfl (by decide) dX4_toldOf rfX4_ok (Nat.le_of_ble_eq_true rfl) ?_
  intro V hV
  have hP : (fun (r : Option Value) (w : am_W) => r = (some (.int res)) ∧ w = (wX4 x σ τ)) (some (.int res)) (wX4 x σ τ) := ⟨rfl, rfl⟩
  show V (wX4 x σ τ) 0 [(0, .ref 0), (1, .int a1), (2, .int a2)] []
  unfold X4_toldOf at h
  refine hV.run 11 [] (ws' := wX4 x σ τ) (pc' := 16) (ls' := [(0, .ref 0), (1, .int a1), (2, .int a2)]) (st' := [.int (((a1 * 104) + (a2 * 13)) + 9), .ref 20]) (ps := []) rfl trivial ?_
  refine hV.cSi (as := [.ref 0, .int (((a1 * 104) + (a2 * 13)) + 9)]) (js := [20]) (rest := []) (st := [.int (((a1 * 104) + (a2 * 13)) + 9), .ref 20]) (ws2 := wX4 x σ τ) (pc2 := 19) kX4_123 (c_at l 1 20800 (by decide) (σ 20) (((a1 * 104) + (a2 * 13)) + 9)) rfl rfl rfl rfl rfl rfl rfl rfl rfl rfl ?_
  subst h
  exact hV.ri rfl rfl rfl hP

def X4_wordsOf (σ : am_M) (a1 : Int32) : Int32 := ((jat 201 (σ 22) (a1 + 1)) - (jat 201 (σ 22) a1))
set_option maxRecDepth 100000 in
set_option maxHeartbeats 4000000 in
theorem c_X4_wordsOf (l : Launch) (σ : am_M) (τ : Nat → Int64) (x : Nat) (a1 : Int32) : am_Con l yX4_wordsOf cX4_wordsOf 2 (some .int) 2 [.ref 0, .int a1] (wX4 x σ τ) (fun (r : Option Value) (w : am_W) => r = (some (.int (X4_wordsOf σ a1))) ∧ w = (wX4 x σ τ)) := by
  obtain ⟨res, h⟩ : ∃ res, (X4_wordsOf σ a1) = res := ⟨_, rfl⟩
  rw [h]
  refine am_metn (n0 := 28) (own := RX4) (cd := am_cdT' tX4_wordsOf) (rf := am_rfL rfX4) (ini := false) rfl (by decide +kernel) rfl (by decide) dX4_wordsOf rfX4_ok (Nat.le_of_ble_eq_true rfl) ?_
  intro V hV
  have hP : (fun (r : Option Value) (w : am_W) => r = (some (.int res)) ∧ w = (wX4 x σ τ)) (some (.int res)) (wX4 x σ τ) := ⟨rfl, rfl⟩
  show V (wX4 x σ τ) 0 [(0, .ref 0), (1, .int a1)] []
  unfold X4_wordsOf at h
  refine hV.run 5 [] (ws' := wX4 x σ τ) (pc' := 7) (ls' := [(0, .ref 0), (1, .int a1)]) (st' := [.int (a1 + 1), .ref 22]) (ps := []) rfl trivial ?_
  refine hV.cSi (as := [.ref 0, .int (a1 + 1)]) (js := [22]) (rest := []) (st := [.int (a1 + 1), .ref 22]) (ws2 := wX4 x σ τ) (pc2 := 10) kX4_123 (c_at l 1 201 (by decide) (σ 22) (a1 + 1)) rfl rfl rfl rfl rfl rfl rfl rfl rfl rfl ?_
  refine hV.run 3 [] (ws' := wX4 x σ τ) (pc' := 15) (ls' := [(0, .ref 0), (1, .int a1)]) (st' := [.int a1, .ref 22, .int (jat 201 (σ 22) (a1 + 1))]) (ps := []) rfl trivial ?_
  refine hV.cSi (as := [.ref 0, .int a1]) (js := [22]) (rest := [.int (jat 201 (σ 22) (a1 + 1))]) (st := [.int a1, .ref 22, .int (jat 201 (σ 22) (a1 + 1))]) (ws2 := wX4 x σ τ) (pc2 := 18) kX4_123 (c_at l 1 201 (by decide) (σ 22) a1) rfl rfl rfl rfl rfl rfl rfl rfl rfl rfl ?_
  refine hV.run 1 [] (ws' := wX4 x σ τ) (pc' := 19) (ls' := [(0, .ref 0), (1, .int a1)]) (st' := [.int ((jat 201 (σ 22) (a1 + 1)) - (jat 201 (σ 22) a1))]) (ps := []) rfl trivial ?_
  subst h
  exact hV.ri rfl rfl rfl hP

def X4_unendedOf_J40 (n : Nat) (σ : am_M) (kont4 : Int32 → Int32 → Int32 → Option Int32) (l1 : Int32) (l2 : Int32) (l3 : Int32) : Option Int32 := kont4 l1 l2 (l3 + 1)
set_option maxRecDepth 100000 in
set_option maxHeartbeats 4000000 in
theorem p_X4_unendedOf_J40 {l : Launch} {Post : Option Value → am_W → Prop} {V : am_VT} (hV : am_B l RX4 false 2 (am_cdT' tX4_unendedOf) (am_rfL rfX4) (some .int) Post 28 V) (n : Nat) (σ : am_M) (τ : Nat → Int64) (x : Nat) (res : Int32) (hP : Post (some (.int res)) (wX4 x σ τ)) (kont4 : Int32 → Int32 → Int32 → Option Int32) (hk4 : ∀ (l1 : Int32) (l2 : Int32) (l3 : Int32), kont4 l1 l2 l3 = some res → V (wX4 x σ τ) 4 [(0, .ref 0), (1, .int l1), (2, .int l2), (3, .int l3)] []) (l1 : Int32) (l2 : Int32) (l3 : Int32) (h : X4_unendedOf_J40 n σ kont4 l1 l2 l3 = some res) : V (wX4 x σ τ) 40 [(0, .ref 0), (1, .int l1), (2, .int l2), (3, .int l3)] [] := by
  unfold X4_unendedOf_J40 at h
  refine hV.run 2 [] (ws' := wX4 x σ τ) (pc' := 4) (ls' := [(3, .int (l3 + 1)), (0, .ref 0), (1, .int l1), (2, .int l2)]) (st' := []) (ps := []) rfl trivial ?_
  refine hV.pick [1, 2, 3, 0] (ls' := [(0, .ref 0), (1, .int l1), (2, .int l2), (3, .int (l3 + 1))]) rfl ?_
  exact hk4 l1 l2 (l3 + 1) h
def X4_unendedOf_B4 (n : Nat) (σ : am_M) (kont4 : Int32 → Int32 → Int32 → Option Int32) (l1 : Int32) (l2 : Int32) (l3 : Int32) : Option Int32 := if (σ 0 13) ≤ l3 then (some l2) else (if (jat 20800 (σ 20) (((l1 * 104) + (l3 * 13)) + 0)) = (-1) then (X4_unendedOf_J40 n σ kont4 l1 l2 l3) else (X4_unendedOf_J40 n σ kont4 l1 (l2 ||| (1 <<< (l3 &&& 31))) l3))
def X4_unendedOf_L4 (n : Nat) (σ : am_M) : Nat → Int32 → Int32 → Int32 → Option Int32
 | 0 => fun _ _ _ => none
 | k + 1 => fun l1 l2 l3 => X4_unendedOf_B4 n σ (X4_unendedOf_L4 n σ k) l1 l2 l3
set_option maxRecDepth 100000 in
set_option maxHeartbeats 4000000 in
theorem p_X4_unendedOf_B4 {l : Launch} {Post : Option Value → am_W → Prop} {V : am_VT} (hV : am_B l RX4 false 2 (am_cdT' tX4_unendedOf) (am_rfL rfX4) (some .int) Post 28 V) (n : Nat) (σ : am_M) (τ : Nat → Int64) (x : Nat) (res : Int32) (hP : Post (some (.int res)) (wX4 x σ τ)) (kont4 : Int32 → Int32 → Int32 → Option Int32) (hk4 : ∀ (l1 : Int32) (l2 : Int32) (l3 : Int32), kont4 l1 l2 l3 = some res → V (wX4 x σ τ) 4 [(0, .ref 0), (1, .int l1), (2, .int l2), (3, .int l3)] []) (l1 : Int32) (l2 : Int32) (l3 : Int32) (h : X4_unendedOf_B4 n σ kont4 l1 l2 l3 = some res) : V (wX4 x σ τ) 4 [(0, .ref 0), (1, .int l1), (2, .int l2), (3, .int l3)] [] := by
  unfold X4_unendedOf_B4 at h
  by_cases c1 : (σ 0 13) ≤ l3
  · rw [if_pos c1] at h
    refine hV.run 5 [1] (ws' := wX4 x σ τ) (pc' := 47) (ls' := [(0, .ref 0), (1, .int l1), (2, .int l2), (3, .int l3)]) (st' := [.int l2]) (ps := [(σ 0 13) ≤ l3]) rfl ⟨c1, trivial⟩ ?_
    cases h
    exact hV.ri rfl rfl rfl hP
  · rw [if_neg c1] at h
    refine hV.run 15 [0] (ws' := wX4 x σ τ) (pc' := 27) (ls' := [(0, .ref 0), (1, .int l1), (2, .int l2), (3, .int l3)]) (st' := [.int (((l1 * 104) + (l3 * 13)) + 0), .ref 20]) (ps := [¬ (σ 0 13) ≤ l3]) rfl ⟨c1, trivial⟩ ?_
    refine hV.cSi (as := [.ref 0, .int (((l1 * 104) + (l3 * 13)) + 0)]) (js := [20]) (rest := []) (st := [.int (((l1 * 104) + (l3 * 13)) + 0), .ref 20]) (ws2 := wX4 x σ τ) (pc2 := 30) kX4_123 (c_at l 1 20800 (by decide) (σ 20) (((l1 * 104) + (l3 * 13)) + 0)) rfl rfl rfl rfl rfl rfl rfl rfl rfl rfl ?_
    by_cases c2 : (jat 20800 (σ 20) (((l1 * 104) + (l3 * 13)) + 0)) = (-1)
    · rw [if_pos c2] at h
      refine hV.run 2 [1] (ws' := wX4 x σ τ) (pc' := 40) (ls' := [(0, .ref 0), (1, .int l1), (2, .int l2), (3, .int l3)]) (st' := []) (ps := [(jat 20800 (σ 20) (((l1 * 104) + (l3 * 13)) + 0)) = (-1)]) rfl ⟨c2, trivial⟩ ?_
      exact p_X4_unendedOf_J40 hV n σ τ x res hP kont4 hk4 l1 l2 l3 h
    · rw [if_neg c2] at h
      refine hV.run 8 [0] (ws' := wX4 x σ τ) (pc' := 40) (ls' := [(2, .int (l2 ||| (1 <<< (l3 &&& 31)))), (0, .ref 0), (1, .int l1), (3, .int l3)]) (st' := []) (ps := [¬ (jat 20800 (σ 20) (((l1 * 104) + (l3 * 13)) + 0)) = (-1)]) rfl ⟨c2, trivial⟩ ?_
      refine hV.pick [1, 2, 0, 3] (ls' := [(0, .ref 0), (1, .int l1), (2, .int (l2 ||| (1 <<< (l3 &&& 31)))), (3, .int l3)]) rfl ?_
      exact p_X4_unendedOf_J40 hV n σ τ x res hP kont4 hk4 l1 (l2 ||| (1 <<< (l3 &&& 31))) l3 h
theorem p_X4_unendedOf_L4 {l : Launch} {Post : Option Value → am_W → Prop} {V : am_VT} (hV : am_B l RX4 false 2 (am_cdT' tX4_unendedOf) (am_rfL rfX4) (some .int) Post 28 V) (n : Nat) (σ : am_M) (τ : Nat → Int64) (x : Nat) (res : Int32) (hP : Post (some (.int res)) (wX4 x σ τ)) : ∀ (k : Nat) (l1 : Int32) (l2 : Int32) (l3 : Int32) (h : X4_unendedOf_L4 n σ k l1 l2 l3 = some res), V (wX4 x σ τ) 4 [(0, .ref 0), (1, .int l1), (2, .int l2), (3, .int l3)] [] := by
  intro k
  induction k with
  | zero => intro l1 l2 l3 h; cases h
  | succ k ih => intro l1 l2 l3 h; exact p_X4_unendedOf_B4 hV n σ τ x res hP _ ih l1 l2 l3 h
def X4_unendedOf (n : Nat) (σ : am_M) (a1 : Int32) : Option Int32 := X4_unendedOf_L4 n σ n a1 0 0
set_option maxRecDepth 100000 in
set_option maxHeartbeats 4000000 in
theorem c_X4_unendedOf (l : Launch) (n : Nat) (σ : am_M) (τ : Nat → Int64) (x : Nat) (a1 : Int32) (res : Int32) (h : X4_unendedOf n σ a1 = some res) : am_Con l yX4_unendedOf cX4_unendedOf 4 (some .int) 2 [.ref 0, .int a1] (wX4 x σ τ) (fun (r : Option Value) (w : am_W) => r = (some (.int res)) ∧ w = (wX4 x σ τ)) := by
  refine am_metn (n0 := 28) (own := RX4) (cd := am_cdT' tX4_unendedOf) (rf := am_rfL rfX4) (ini := false) rfl (by decide +kernel) rfl (by decide) dX4_unendedOf rfX4_ok (Nat.le_of_ble_eq_true rfl) ?_
  intro V hV
  have hP : (fun (r : Option Value) (w : am_W) => r = (some (.int res)) ∧ w = (wX4 x σ τ)) (some (.int res)) (wX4 x σ τ) := ⟨rfl, rfl⟩
  show V (wX4 x σ τ) 0 [(0, .ref 0), (1, .int a1)] []
  unfold X4_unendedOf at h
  refine hV.run 4 [] (ws' := wX4 x σ τ) (pc' := 4) (ls' := [(3, .int 0), (2, .int 0), (0, .ref 0), (1, .int a1)]) (st' := []) (ps := []) rfl trivial ?_
  refine hV.pick [2, 3, 1, 0] (ls' := [(0, .ref 0), (1, .int a1), (2, .int 0), (3, .int 0)]) rfl ?_
  exact p_X4_unendedOf_L4 hV n σ τ x res hP n a1 0 0 h

def X4_compare_J78 (n : Nat) (σ : am_M) (l1 : Int32) (l2 : Int32) (l3 : Int32) : Option Int32 := if l3 = 0 then (X4_unendedOf n σ l1).bind (fun q2 => (X4_unendedOf n σ l2).bind (fun q3 => some (J6_compare_7cf53 q2 q3))) else (some l3)
set_option maxRecDepth 100000 in
set_option maxHeartbeats 4000000 in
theorem p_X4_compare_J78 {l : Launch} {Post : Option Value → am_W → Prop} {V : am_VT} (hV : am_B l RX4 false 3 (am_cdT' tX4_compare) (am_rfL rfX4) (some .int) Post 28 V) (n : Nat) (σ : am_M) (τ : Nat → Int64) (res : Int32) (hP : Post (some (.int res)) (wX4 12 σ τ)) (l1 : Int32) (l2 : Int32) (l3 : Int32) (h : X4_compare_J78 n σ l1 l2 l3 = some res) : V (wX4 12 σ τ) 78 [(0, .ref 0), (1, .int l1), (2, .int l2), (3, .int l3)] [] := by
  unfold X4_compare_J78 at h
  by_cases c1 : l3 = 0
  · rw [if_pos c1] at h
    refine hV.run 4 [1] (ws' := wX4 12 σ τ) (pc' := 88) (ls' := [(0, .ref 0), (1, .int l1), (2, .int l2), (3, .int l3)]) (st' := [.int l1, .ref 0]) (ps := [l3 = 0]) rfl ⟨c1, trivial⟩ ?_
    obtain ⟨q2, hq2, h⟩ := am_bind h
    refine hV.cOi (as := [.int l1]) (rest := []) (st := [.int l1, .ref 0]) (ws2 := wX4 12 σ τ) (pc2 := 91) kX4_187 (c_X4_unendedOf l n σ τ 12 l1 q2 hq2) rfl rfl rfl rfl rfl rfl rfl rfl rfl ?_
    refine hV.run 2 [] (ws' := wX4 12 σ τ) (pc' := 93) (ls' := [(0, .ref 0), (1, .int l1), (2, .int l2), (3, .int l3)]) (st' := [.int l2, .ref 0, .int q2]) (ps := []) rfl trivial ?_
    obtain ⟨q3, hq3, h⟩ := am_bind h
    refine hV.cOi (as := [.int l2]) (rest := [.int q2]) (st := [.int l2, .ref 0, .int q2]) (ws2 := wX4 12 σ τ) (pc2 := 96) kX4_187 (c_X4_unendedOf l n σ τ 12 l2 q3 hq3) rfl rfl rfl rfl rfl rfl rfl rfl rfl ?_
    refine hV.cSi (as := [.int q2, .int q3]) (js := []) (rest := []) (st := [.int q3, .int q2]) (ws2 := wX4 12 σ τ) (pc2 := 99) kX4_178 (c_J6_compare_7cf53 l q2 q3) rfl rfl rfl rfl rfl rfl rfl rfl rfl rfl ?_
    cases h
    exact hV.ri rfl rfl rfl hP
  · rw [if_neg c1] at h
    refine hV.run 4 [0] (ws' := wX4 12 σ τ) (pc' := 99) (ls' := [(0, .ref 0), (1, .int l1), (2, .int l2), (3, .int l3)]) (st' := [.int l3]) (ps := [¬ l3 = 0]) rfl ⟨c1, trivial⟩ ?_
    cases h
    exact hV.ri rfl rfl rfl hP
def X4_compare_J60 (n : Nat) (σ : am_M) (l1 : Int32) (l2 : Int32) (l3 : Int32) : Option Int32 := if l3 = 0 then (X4_compare_J78 n σ l1 l2 (J6_compare_7cf53 (X4_wordsOf σ l1) (X4_wordsOf σ l2))) else (X4_compare_J78 n σ l1 l2 l3)
set_option maxRecDepth 100000 in
set_option maxHeartbeats 4000000 in
theorem p_X4_compare_J60 {l : Launch} {Post : Option Value → am_W → Prop} {V : am_VT} (hV : am_B l RX4 false 3 (am_cdT' tX4_compare) (am_rfL rfX4) (some .int) Post 28 V) (n : Nat) (σ : am_M) (τ : Nat → Int64) (res : Int32) (hP : Post (some (.int res)) (wX4 12 σ τ)) (l1 : Int32) (l2 : Int32) (l3 : Int32) (h : X4_compare_J60 n σ l1 l2 l3 = some res) : V (wX4 12 σ τ) 60 [(0, .ref 0), (1, .int l1), (2, .int l2), (3, .int l3)] [] := by
  unfold X4_compare_J60 at h
  by_cases c1 : l3 = 0
  · rw [if_pos c1] at h
    refine hV.run 4 [0] (ws' := wX4 12 σ τ) (pc' := 66) (ls' := [(0, .ref 0), (1, .int l1), (2, .int l2), (3, .int l3)]) (st' := [.int l1, .ref 0]) (ps := [l3 = 0]) rfl ⟨c1, trivial⟩ ?_
    refine hV.cOi (as := [.int l1]) (rest := []) (st := [.int l1, .ref 0]) (ws2 := wX4 12 σ τ) (pc2 := 69) kX4_184 (c_X4_wordsOf l σ τ 12 l1) rfl rfl rfl rfl rfl rfl rfl rfl rfl ?_
    refine hV.run 2 [] (ws' := wX4 12 σ τ) (pc' := 71) (ls' := [(0, .ref 0), (1, .int l1), (2, .int l2), (3, .int l3)]) (st' := [.int l2, .ref 0, .int (X4_wordsOf σ l1)]) (ps := []) rfl trivial ?_
    refine hV.cOi (as := [.int l2]) (rest := [.int (X4_wordsOf σ l1)]) (st := [.int l2, .ref 0, .int (X4_wordsOf σ l1)]) (ws2 := wX4 12 σ τ) (pc2 := 74) kX4_184 (c_X4_wordsOf l σ τ 12 l2) rfl rfl rfl rfl rfl rfl rfl rfl rfl ?_
    refine hV.cSi (as := [.int (X4_wordsOf σ l1), .int (X4_wordsOf σ l2)]) (js := []) (rest := []) (st := [.int (X4_wordsOf σ l2), .int (X4_wordsOf σ l1)]) (ws2 := wX4 12 σ τ) (pc2 := 77) kX4_178 (c_J6_compare_7cf53 l (X4_wordsOf σ l1) (X4_wordsOf σ l2)) rfl rfl rfl rfl rfl rfl rfl rfl rfl rfl ?_
    refine hV.run 1 [] (ws' := wX4 12 σ τ) (pc' := 78) (ls' := [(3, .int (J6_compare_7cf53 (X4_wordsOf σ l1) (X4_wordsOf σ l2))), (0, .ref 0), (1, .int l1), (2, .int l2)]) (st' := []) (ps := []) rfl trivial ?_
    refine hV.pick [1, 2, 3, 0] (ls' := [(0, .ref 0), (1, .int l1), (2, .int l2), (3, .int (J6_compare_7cf53 (X4_wordsOf σ l1) (X4_wordsOf σ l2)))]) rfl ?_
    exact p_X4_compare_J78 hV n σ τ res hP l1 l2 (J6_compare_7cf53 (X4_wordsOf σ l1) (X4_wordsOf σ l2)) h
  · rw [if_neg c1] at h
    refine hV.run 2 [1] (ws' := wX4 12 σ τ) (pc' := 78) (ls' := [(0, .ref 0), (1, .int l1), (2, .int l2), (3, .int l3)]) (st' := []) (ps := [¬ l3 = 0]) rfl ⟨c1, trivial⟩ ?_
    exact p_X4_compare_J78 hV n σ τ res hP l1 l2 l3 h
def X4_compare_B23 (n : Nat) (σ : am_M) (kont23 : Int32 → Int32 → Int32 → Int32 → Option Int32) (l1 : Int32) (l2 : Int32) (l3 : Int32) (l4 : Int32) : Option Int32 := if (σ 0 13) ≤ l4 then (X4_compare_J60 n σ l1 l2 l3) else (if l3 = 0 then (kont23 l1 l2 (J6_compare_7cf53 (X4_toldOf σ l1 l4) (X4_toldOf σ l2 l4)) (l4 + 1)) else (X4_compare_J60 n σ l1 l2 l3))
def X4_compare_L23 (n : Nat) (σ : am_M) : Nat → Int32 → Int32 → Int32 → Int32 → Option Int32
 | 0 => fun _ _ _ _ => none
 | k + 1 => fun l1 l2 l3 l4 => X4_compare_B23 n σ (X4_compare_L23 n σ k) l1 l2 l3 l4
set_option maxRecDepth 100000 in
set_option maxHeartbeats 4000000 in
theorem p_X4_compare_B23 {l : Launch} {Post : Option Value → am_W → Prop} {V : am_VT} (hV : am_B l RX4 false 3 (am_cdT' tX4_compare) (am_rfL rfX4) (some .int) Post 28 V) (n : Nat) (σ : am_M) (τ : Nat → Int64) (res : Int32) (hP : Post (some (.int res)) (wX4 12 σ τ)) (kont23 : Int32 → Int32 → Int32 → Int32 → Option Int32) (hk23 : ∀ (l1 : Int32) (l2 : Int32) (l3 : Int32) (l4 : Int32), kont23 l1 l2 l3 l4 = some res → V (wX4 12 σ τ) 23 [(0, .ref 0), (1, .int l1), (2, .int l2), (3, .int l3), (4, .int l4)] []) (l1 : Int32) (l2 : Int32) (l3 : Int32) (l4 : Int32) (h : X4_compare_B23 n σ kont23 l1 l2 l3 l4 = some res) : V (wX4 12 σ τ) 23 [(0, .ref 0), (1, .int l1), (2, .int l2), (3, .int l3), (4, .int l4)] [] := by
  unfold X4_compare_B23 at h
  by_cases c1 : (σ 0 13) ≤ l4
  · rw [if_pos c1] at h
    refine hV.run 4 [1] (ws' := wX4 12 σ τ) (pc' := 60) (ls' := [(0, .ref 0), (1, .int l1), (2, .int l2), (3, .int l3), (4, .int l4)]) (st' := []) (ps := [(σ 0 13) ≤ l4]) rfl ⟨c1, trivial⟩ ?_
    refine hV.pick [0, 1, 2, 3] (ls' := [(0, .ref 0), (1, .int l1), (2, .int l2), (3, .int l3)]) rfl ?_
    exact p_X4_compare_J60 hV n σ τ res hP l1 l2 l3 h
  · rw [if_neg c1] at h
    by_cases c2 : l3 = 0
    · rw [if_pos c2] at h
      refine hV.run 9 [0, 0] (ws' := wX4 12 σ τ) (pc' := 40) (ls' := [(0, .ref 0), (1, .int l1), (2, .int l2), (3, .int l3), (4, .int l4)]) (st' := [.int l4, .int l1, .ref 0]) (ps := [¬ (σ 0 13) ≤ l4, l3 = 0]) rfl ⟨c1, c2, trivial⟩ ?_
      refine hV.cOi (as := [.int l1, .int l4]) (rest := []) (st := [.int l4, .int l1, .ref 0]) (ws2 := wX4 12 σ τ) (pc2 := 43) kX4_181 (c_X4_toldOf l σ τ 12 l1 l4) rfl rfl rfl rfl rfl rfl rfl rfl rfl ?_
      refine hV.run 3 [] (ws' := wX4 12 σ τ) (pc' := 47) (ls' := [(0, .ref 0), (1, .int l1), (2, .int l2), (3, .int l3), (4, .int l4)]) (st' := [.int l4, .int l2, .ref 0, .int (X4_toldOf σ l1 l4)]) (ps := []) rfl trivial ?_
      refine hV.cOi (as := [.int l2, .int l4]) (rest := [.int (X4_toldOf σ l1 l4)]) (st := [.int l4, .int l2, .ref 0, .int (X4_toldOf σ l1 l4)]) (ws2 := wX4 12 σ τ) (pc2 := 50) kX4_181 (c_X4_toldOf l σ τ 12 l2 l4) rfl rfl rfl rfl rfl rfl rfl rfl rfl ?_
      refine hV.cSi (as := [.int (X4_toldOf σ l1 l4), .int (X4_toldOf σ l2 l4)]) (js := []) (rest := []) (st := [.int (X4_toldOf σ l2 l4), .int (X4_toldOf σ l1 l4)]) (ws2 := wX4 12 σ τ) (pc2 := 53) kX4_178 (c_J6_compare_7cf53 l (X4_toldOf σ l1 l4) (X4_toldOf σ l2 l4)) rfl rfl rfl rfl rfl rfl rfl rfl rfl rfl ?_
      refine hV.run 3 [] (ws' := wX4 12 σ τ) (pc' := 23) (ls' := [(4, .int (l4 + 1)), (3, .int (J6_compare_7cf53 (X4_toldOf σ l1 l4) (X4_toldOf σ l2 l4))), (0, .ref 0), (1, .int l1), (2, .int l2)]) (st' := []) (ps := []) rfl trivial ?_
      refine hV.pick [2, 3, 4, 1, 0] (ls' := [(0, .ref 0), (1, .int l1), (2, .int l2), (3, .int (J6_compare_7cf53 (X4_toldOf σ l1 l4) (X4_toldOf σ l2 l4))), (4, .int (l4 + 1))]) rfl ?_
      exact hk23 l1 l2 (J6_compare_7cf53 (X4_toldOf σ l1 l4) (X4_toldOf σ l2 l4)) (l4 + 1) h
    · rw [if_neg c2] at h
      refine hV.run 6 [0, 1] (ws' := wX4 12 σ τ) (pc' := 60) (ls' := [(0, .ref 0), (1, .int l1), (2, .int l2), (3, .int l3), (4, .int l4)]) (st' := []) (ps := [¬ (σ 0 13) ≤ l4, ¬ l3 = 0]) rfl ⟨c1, c2, trivial⟩ ?_
      refine hV.pick [0, 1, 2, 3] (ls' := [(0, .ref 0), (1, .int l1), (2, .int l2), (3, .int l3)]) rfl ?_
      exact p_X4_compare_J60 hV n σ τ res hP l1 l2 l3 h
theorem p_X4_compare_L23 {l : Launch} {Post : Option Value → am_W → Prop} {V : am_VT} (hV : am_B l RX4 false 3 (am_cdT' tX4_compare) (am_rfL rfX4) (some .int) Post 28 V) (n : Nat) (σ : am_M) (τ : Nat → Int64) (res : Int32) (hP : Post (some (.int res)) (wX4 12 σ τ)) : ∀ (k : Nat) (l1 : Int32) (l2 : Int32) (l3 : Int32) (l4 : Int32) (h : X4_compare_L23 n σ k l1 l2 l3 l4 = some res), V (wX4 12 σ τ) 23 [(0, .ref 0), (1, .int l1), (2, .int l2), (3, .int l3), (4, .int l4)] [] := by
  intro k
  induction k with
  | zero => intro l1 l2 l3 l4 h; cases h
  | succ k ih => intro l1 l2 l3 l4 h; exact p_X4_compare_B23 hV n σ τ res hP _ ih l1 l2 l3 l4 h
def X4_compare (n : Nat) (σ : am_M) (a1 : Int32) (a2 : Int32) : Option Int32 := X4_compare_L23 n σ n a1 a2 (J6_compare_7cf53 (jat 200 (σ 25) a1) (jat 200 (σ 25) a2)) 0
set_option maxRecDepth 100000 in
set_option maxHeartbeats 4000000 in
theorem c_X4_compare (l : Launch) (n : Nat) (σ : am_M) (τ : Nat → Int64) (a1 : Int32) (a2 : Int32) (res : Int32) (h : X4_compare n σ a1 a2 = some res) : am_Con l yX4_compare cX4_compare 5 (some .int) 3 [.ref 0, .int a1, .int a2] (wX4 12 σ τ) (fun (r : Option Value) (w : am_W) => r = (some (.int res)) ∧ w = (wX4 12 σ τ)) := by
  refine am_metn (n0 := 28) (own := RX4) (cd := am_cdT' tX4_compare) (rf := am_rfL rfX4) (ini := false) rfl (by decide +kernel) rfl (by decide) dX4_compare rfX4_ok (Nat.le_of_ble_eq_true rfl) ?_
  intro V hV
  have hP : (fun (r : Option Value) (w : am_W) => r = (some (.int res)) ∧ w = (wX4 12 σ τ)) (some (.int res)) (wX4 12 σ τ) := ⟨rfl, rfl⟩
  show V (wX4 12 σ τ) 0 [(0, .ref 0), (1, .int a1), (2, .int a2)] []
  unfold X4_compare at h
  refine hV.run 3 [] (ws' := wX4 12 σ τ) (pc' := 5) (ls' := [(0, .ref 0), (1, .int a1), (2, .int a2)]) (st' := [.int a1, .ref 25]) (ps := []) rfl trivial ?_
  refine hV.cSi (as := [.ref 0, .int a1]) (js := [25]) (rest := []) (st := [.int a1, .ref 25]) (ws2 := wX4 12 σ τ) (pc2 := 8) kX4_123 (c_at l 1 200 (by decide) (σ 25) a1) rfl rfl rfl rfl rfl rfl rfl rfl rfl rfl ?_
  refine hV.run 3 [] (ws' := wX4 12 σ τ) (pc' := 13) (ls' := [(0, .ref 0), (1, .int a1), (2, .int a2)]) (st' := [.int a2, .ref 25, .int (jat 200 (σ 25) a1)]) (ps := []) rfl trivial ?_
  refine hV.cSi (as := [.ref 0, .int a2]) (js := [25]) (rest := [.int (jat 200 (σ 25) a1)]) (st := [.int a2, .ref 25, .int (jat 200 (σ 25) a1)]) (ws2 := wX4 12 σ τ) (pc2 := 16) kX4_123 (c_at l 1 200 (by decide) (σ 25) a2) rfl rfl rfl rfl rfl rfl rfl rfl rfl rfl ?_
  refine hV.cSi (as := [.int (jat 200 (σ 25) a1), .int (jat 200 (σ 25) a2)]) (js := []) (rest := []) (st := [.int (jat 200 (σ 25) a2), .int (jat 200 (σ 25) a1)]) (ws2 := wX4 12 σ τ) (pc2 := 19) kX4_178 (c_J6_compare_7cf53 l (jat 200 (σ 25) a1) (jat 200 (σ 25) a2)) rfl rfl rfl rfl rfl rfl rfl rfl rfl rfl ?_
  refine hV.run 3 [] (ws' := wX4 12 σ τ) (pc' := 23) (ls' := [(4, .int 0), (3, .int (J6_compare_7cf53 (jat 200 (σ 25) a1) (jat 200 (σ 25) a2))), (0, .ref 0), (1, .int a1), (2, .int a2)]) (st' := []) (ps := []) rfl trivial ?_
  refine hV.pick [2, 3, 4, 1, 0] (ls' := [(0, .ref 0), (1, .int a1), (2, .int a2), (3, .int (J6_compare_7cf53 (jat 200 (σ 25) a1) (jat 200 (σ 25) a2))), (4, .int 0)]) rfl ?_
  exact p_X4_compare_L23 hV n σ τ res hP n a1 a2 (J6_compare_7cf53 (jat 200 (σ 25) a1) (jat 200 (σ 25) a2)) 0 h

def X4_addEnding_B62 (n : Nat) (kont62 : am_M → Int32 → Int32 → Int32 → Option am_M) (σ : am_M) (l1 : Int32) (l2 : Int32) (l3 : Int32) : Option am_M := if l3 ≤ l2 then (some (sC (sC σ 0 (am_u (σ 0) 10 ((σ 0 10) + 1))) 26 (jput 200 (σ 26) l2 l1))) else (kont62 (sC σ 26 (jput 200 (σ 26) l3 (jat 200 (σ 26) (l3 - 1)))) l1 l2 (l3 + (-1)))
def X4_addEnding_L62 (n : Nat) : Nat → am_M → Int32 → Int32 → Int32 → Option am_M
 | 0 => fun _ _ _ _ => none
 | k + 1 => fun σ l1 l2 l3 => X4_addEnding_B62 n (X4_addEnding_L62 n k) σ l1 l2 l3
set_option maxRecDepth 100000 in
set_option maxHeartbeats 4000000 in
theorem p_X4_addEnding_B62 {l : Launch} {Post : Option Value → am_W → Prop} {V : am_VT} (hV : am_B l RX4 false 4 (am_cdT' tX4_addEnding) (am_rfL rfX4) none Post 28 V) (n : Nat) (τ : Nat → Int64) (res : am_M) (hP : Post none (wX4 12 res τ)) (kont62 : am_M → Int32 → Int32 → Int32 → Option am_M) (hk62 : ∀ (σ : am_M) (l1 : Int32) (l2 : Int32) (l3 : Int32), kont62 σ l1 l2 l3 = some res → V (wX4 12 σ τ) 62 [(0, .ref 0), (1, .int l1), (2, .int l2), (3, .int l3)] []) (σ : am_M) (l1 : Int32) (l2 : Int32) (l3 : Int32) (h : X4_addEnding_B62 n kont62 σ l1 l2 l3 = some res) : V (wX4 12 σ τ) 62 [(0, .ref 0), (1, .int l1), (2, .int l2), (3, .int l3)] [] := by
  unfold X4_addEnding_B62 at h
  by_cases c1 : l3 ≤ l2
  · rw [if_pos c1] at h
    refine hV.run 7 [1] (ws' := wX4 12 σ τ) (pc' := 97) (ls' := [(0, .ref 0), (1, .int l1), (2, .int l2), (3, .int l3)]) (st' := [.int l1, .int l2, .ref 26]) (ps := [l3 ≤ l2]) rfl ⟨c1, trivial⟩ ?_
    refine hV.cSv (as := [.ref 0, .int l2, .int l1]) (js := [26]) (rest := []) (st := [.int l1, .int l2, .ref 26]) (ws2 := wX4 12 (sC σ 26 (jput 200 (σ 26) l2 l1)) τ) (pc2 := 100) kX4_68 (c_put l 1 200 (by decide) (σ 26) l2 l1) rfl rfl rfl rfl rfl rfl rfl rfl rfl rfl ?_
    refine hV.run 6 [] (ws' := wX4 12 (sC (sC σ 0 (am_u (σ 0) 10 ((σ 0 10) + 1))) 26 (jput 200 (σ 26) l2 l1)) τ) (pc' := 110) (ls' := [(0, .ref 0), (1, .int l1), (2, .int l2), (3, .int l3)]) (st' := []) (ps := []) rfl trivial ?_
    cases h
    exact hV.rv rfl rfl rfl hP
  · rw [if_neg c1] at h
    refine hV.run 11 [0] (ws' := wX4 12 σ τ) (pc' := 79) (ls' := [(0, .ref 0), (1, .int l1), (2, .int l2), (3, .int l3)]) (st' := [.int (l3 - 1), .ref 26, .int l3, .ref 26]) (ps := [¬ l3 ≤ l2]) rfl ⟨c1, trivial⟩ ?_
    refine hV.cSi (as := [.ref 0, .int (l3 - 1)]) (js := [26]) (rest := [.int l3, .ref 26]) (st := [.int (l3 - 1), .ref 26, .int l3, .ref 26]) (ws2 := wX4 12 σ τ) (pc2 := 82) kX4_123 (c_at l 1 200 (by decide) (σ 26) (l3 - 1)) rfl rfl rfl rfl rfl rfl rfl rfl rfl rfl ?_
    refine hV.cSv (as := [.ref 0, .int l3, .int (jat 200 (σ 26) (l3 - 1))]) (js := [26]) (rest := []) (st := [.int (jat 200 (σ 26) (l3 - 1)), .int l3, .ref 26]) (ws2 := wX4 12 (sC σ 26 (jput 200 (σ 26) l3 (jat 200 (σ 26) (l3 - 1)))) τ) (pc2 := 85) kX4_68 (c_put l 1 200 (by decide) (σ 26) l3 (jat 200 (σ 26) (l3 - 1))) rfl rfl rfl rfl rfl rfl rfl rfl rfl rfl ?_
    refine hV.run 2 [] (ws' := wX4 12 (sC σ 26 (jput 200 (σ 26) l3 (jat 200 (σ 26) (l3 - 1)))) τ) (pc' := 62) (ls' := [(3, .int (l3 + (-1))), (0, .ref 0), (1, .int l1), (2, .int l2)]) (st' := []) (ps := []) rfl trivial ?_
    refine hV.pick [1, 2, 3, 0] (ls' := [(0, .ref 0), (1, .int l1), (2, .int l2), (3, .int (l3 + (-1)))]) rfl ?_
    exact hk62 (sC σ 26 (jput 200 (σ 26) l3 (jat 200 (σ 26) (l3 - 1)))) l1 l2 (l3 + (-1)) h
theorem p_X4_addEnding_L62 {l : Launch} {Post : Option Value → am_W → Prop} {V : am_VT} (hV : am_B l RX4 false 4 (am_cdT' tX4_addEnding) (am_rfL rfX4) none Post 28 V) (n : Nat) (τ : Nat → Int64) (res : am_M) (hP : Post none (wX4 12 res τ)) : ∀ (k : Nat) (σ : am_M) (l1 : Int32) (l2 : Int32) (l3 : Int32) (h : X4_addEnding_L62 n k σ l1 l2 l3 = some res), V (wX4 12 σ τ) 62 [(0, .ref 0), (1, .int l1), (2, .int l2), (3, .int l3)] [] := by
  intro k
  induction k with
  | zero => intro σ l1 l2 l3 h; cases h
  | succ k ih => intro σ l1 l2 l3 h; exact p_X4_addEnding_B62 hV n τ res hP _ ih σ l1 l2 l3 h
def X4_addEnding_J57 (n : Nat) (σ : am_M) (l1 : Int32) (l2 : Int32) : Option am_M := X4_addEnding_L62 n n σ l1 l2 (σ 0 10)
set_option maxRecDepth 100000 in
set_option maxHeartbeats 4000000 in
theorem p_X4_addEnding_J57 {l : Launch} {Post : Option Value → am_W → Prop} {V : am_VT} (hV : am_B l RX4 false 4 (am_cdT' tX4_addEnding) (am_rfL rfX4) none Post 28 V) (n : Nat) (τ : Nat → Int64) (res : am_M) (hP : Post none (wX4 12 res τ)) (σ : am_M) (l1 : Int32) (l2 : Int32) (h : X4_addEnding_J57 n σ l1 l2 = some res) : V (wX4 12 σ τ) 57 [(0, .ref 0), (1, .int l1), (2, .int l2)] [] := by
  unfold X4_addEnding_J57 at h
  refine hV.run 3 [] (ws' := wX4 12 σ τ) (pc' := 62) (ls' := [(3, .int (σ 0 10)), (0, .ref 0), (1, .int l1), (2, .int l2)]) (st' := []) (ps := []) rfl trivial ?_
  refine hV.pick [1, 2, 3, 0] (ls' := [(0, .ref 0), (1, .int l1), (2, .int l2), (3, .int (σ 0 10))]) rfl ?_
  exact p_X4_addEnding_L62 hV n τ res hP n σ l1 l2 (σ 0 10) h
def X4_addEnding_J32 (n : Nat) (σ : am_M) (l1 : Int32) (l2 : Int32) : Option am_M := if (σ 0 10) ≤ l2 then (X4_addEnding_J57 n σ l1 l2) else (X4_compare n σ (jat 200 (σ 26) l2) l1).bind (fun q2 => if q2 = 0 then (some σ) else (X4_addEnding_J57 n σ l1 l2))
set_option maxRecDepth 100000 in
set_option maxHeartbeats 4000000 in
theorem p_X4_addEnding_J32 {l : Launch} {Post : Option Value → am_W → Prop} {V : am_VT} (hV : am_B l RX4 false 4 (am_cdT' tX4_addEnding) (am_rfL rfX4) none Post 28 V) (n : Nat) (τ : Nat → Int64) (res : am_M) (hP : Post none (wX4 12 res τ)) (σ : am_M) (l1 : Int32) (l2 : Int32) (h : X4_addEnding_J32 n σ l1 l2 = some res) : V (wX4 12 σ τ) 32 [(0, .ref 0), (1, .int l1), (2, .int l2)] [] := by
  unfold X4_addEnding_J32 at h
  by_cases c1 : (σ 0 10) ≤ l2
  · rw [if_pos c1] at h
    refine hV.run 4 [1] (ws' := wX4 12 σ τ) (pc' := 57) (ls' := [(0, .ref 0), (1, .int l1), (2, .int l2)]) (st' := []) (ps := [(σ 0 10) ≤ l2]) rfl ⟨c1, trivial⟩ ?_
    exact p_X4_addEnding_J57 hV n τ res hP σ l1 l2 h
  · rw [if_neg c1] at h
    refine hV.run 8 [0] (ws' := wX4 12 σ τ) (pc' := 46) (ls' := [(0, .ref 0), (1, .int l1), (2, .int l2)]) (st' := [.int l2, .ref 26, .ref 0]) (ps := [¬ (σ 0 10) ≤ l2]) rfl ⟨c1, trivial⟩ ?_
    refine hV.cSi (as := [.ref 0, .int l2]) (js := [26]) (rest := [.ref 0]) (st := [.int l2, .ref 26, .ref 0]) (ws2 := wX4 12 σ τ) (pc2 := 49) kX4_123 (c_at l 1 200 (by decide) (σ 26) l2) rfl rfl rfl rfl rfl rfl rfl rfl rfl rfl ?_
    refine hV.run 1 [] (ws' := wX4 12 σ τ) (pc' := 50) (ls' := [(0, .ref 0), (1, .int l1), (2, .int l2)]) (st' := [.int l1, .int (jat 200 (σ 26) l2), .ref 0]) (ps := []) rfl trivial ?_
    obtain ⟨q2, hq2, h⟩ := am_bind h
    refine hV.cOi (as := [.int (jat 200 (σ 26) l2), .int l1]) (rest := []) (st := [.int l1, .int (jat 200 (σ 26) l2), .ref 0]) (ws2 := wX4 12 σ τ) (pc2 := 53) kX4_174 (c_X4_compare l n σ τ (jat 200 (σ 26) l2) l1 q2 hq2) rfl rfl rfl rfl rfl rfl rfl rfl rfl ?_
    by_cases c3 : q2 = 0
    · rw [if_pos c3] at h
      refine hV.run 1 [0] (ws' := wX4 12 σ τ) (pc' := 56) (ls' := [(0, .ref 0), (1, .int l1), (2, .int l2)]) (st' := []) (ps := [q2 = 0]) rfl ⟨c3, trivial⟩ ?_
      cases h
      exact hV.rv rfl rfl rfl hP
    · rw [if_neg c3] at h
      refine hV.run 1 [1] (ws' := wX4 12 σ τ) (pc' := 57) (ls' := [(0, .ref 0), (1, .int l1), (2, .int l2)]) (st' := []) (ps := [¬ q2 = 0]) rfl ⟨c3, trivial⟩ ?_
      exact p_X4_addEnding_J57 hV n τ res hP σ l1 l2 h
def X4_addEnding_B2 (n : Nat) (kont2 : am_M → Int32 → Int32 → Option am_M) (σ : am_M) (l1 : Int32) (l2 : Int32) : Option am_M := if (σ 0 10) ≤ l2 then (X4_addEnding_J32 n σ l1 l2) else (X4_compare n σ (jat 200 (σ 26) l2) l1).bind (fun q2 => if 0 ≤ q2 then (X4_addEnding_J32 n σ l1 l2) else (kont2 σ l1 (l2 + 1)))
def X4_addEnding_L2 (n : Nat) : Nat → am_M → Int32 → Int32 → Option am_M
 | 0 => fun _ _ _ => none
 | k + 1 => fun σ l1 l2 => X4_addEnding_B2 n (X4_addEnding_L2 n k) σ l1 l2
set_option maxRecDepth 100000 in
set_option maxHeartbeats 4000000 in
theorem p_X4_addEnding_B2 {l : Launch} {Post : Option Value → am_W → Prop} {V : am_VT} (hV : am_B l RX4 false 4 (am_cdT' tX4_addEnding) (am_rfL rfX4) none Post 28 V) (n : Nat) (τ : Nat → Int64) (res : am_M) (hP : Post none (wX4 12 res τ)) (kont2 : am_M → Int32 → Int32 → Option am_M) (hk2 : ∀ (σ : am_M) (l1 : Int32) (l2 : Int32), kont2 σ l1 l2 = some res → V (wX4 12 σ τ) 2 [(0, .ref 0), (1, .int l1), (2, .int l2)] []) (σ : am_M) (l1 : Int32) (l2 : Int32) (h : X4_addEnding_B2 n kont2 σ l1 l2 = some res) : V (wX4 12 σ τ) 2 [(0, .ref 0), (1, .int l1), (2, .int l2)] [] := by
  unfold X4_addEnding_B2 at h
  by_cases c1 : (σ 0 10) ≤ l2
  · rw [if_pos c1] at h
    refine hV.run 4 [1] (ws' := wX4 12 σ τ) (pc' := 32) (ls' := [(0, .ref 0), (1, .int l1), (2, .int l2)]) (st' := []) (ps := [(σ 0 10) ≤ l2]) rfl ⟨c1, trivial⟩ ?_
    exact p_X4_addEnding_J32 hV n τ res hP σ l1 l2 h
  · rw [if_neg c1] at h
    refine hV.run 8 [0] (ws' := wX4 12 σ τ) (pc' := 16) (ls' := [(0, .ref 0), (1, .int l1), (2, .int l2)]) (st' := [.int l2, .ref 26, .ref 0]) (ps := [¬ (σ 0 10) ≤ l2]) rfl ⟨c1, trivial⟩ ?_
    refine hV.cSi (as := [.ref 0, .int l2]) (js := [26]) (rest := [.ref 0]) (st := [.int l2, .ref 26, .ref 0]) (ws2 := wX4 12 σ τ) (pc2 := 19) kX4_123 (c_at l 1 200 (by decide) (σ 26) l2) rfl rfl rfl rfl rfl rfl rfl rfl rfl rfl ?_
    refine hV.run 1 [] (ws' := wX4 12 σ τ) (pc' := 20) (ls' := [(0, .ref 0), (1, .int l1), (2, .int l2)]) (st' := [.int l1, .int (jat 200 (σ 26) l2), .ref 0]) (ps := []) rfl trivial ?_
    obtain ⟨q2, hq2, h⟩ := am_bind h
    refine hV.cOi (as := [.int (jat 200 (σ 26) l2), .int l1]) (rest := []) (st := [.int l1, .int (jat 200 (σ 26) l2), .ref 0]) (ws2 := wX4 12 σ τ) (pc2 := 23) kX4_174 (c_X4_compare l n σ τ (jat 200 (σ 26) l2) l1 q2 hq2) rfl rfl rfl rfl rfl rfl rfl rfl rfl ?_
    by_cases c3 : 0 ≤ q2
    · rw [if_pos c3] at h
      refine hV.run 1 [1] (ws' := wX4 12 σ τ) (pc' := 32) (ls' := [(0, .ref 0), (1, .int l1), (2, .int l2)]) (st' := []) (ps := [0 ≤ q2]) rfl ⟨c3, trivial⟩ ?_
      exact p_X4_addEnding_J32 hV n τ res hP σ l1 l2 h
    · rw [if_neg c3] at h
      refine hV.run 3 [0] (ws' := wX4 12 σ τ) (pc' := 2) (ls' := [(2, .int (l2 + 1)), (0, .ref 0), (1, .int l1)]) (st' := []) (ps := [¬ 0 ≤ q2]) rfl ⟨c3, trivial⟩ ?_
      refine hV.pick [1, 2, 0] (ls' := [(0, .ref 0), (1, .int l1), (2, .int (l2 + 1))]) rfl ?_
      exact hk2 σ l1 (l2 + 1) h
theorem p_X4_addEnding_L2 {l : Launch} {Post : Option Value → am_W → Prop} {V : am_VT} (hV : am_B l RX4 false 4 (am_cdT' tX4_addEnding) (am_rfL rfX4) none Post 28 V) (n : Nat) (τ : Nat → Int64) (res : am_M) (hP : Post none (wX4 12 res τ)) : ∀ (k : Nat) (σ : am_M) (l1 : Int32) (l2 : Int32) (h : X4_addEnding_L2 n k σ l1 l2 = some res), V (wX4 12 σ τ) 2 [(0, .ref 0), (1, .int l1), (2, .int l2)] [] := by
  intro k
  induction k with
  | zero => intro σ l1 l2 h; cases h
  | succ k ih => intro σ l1 l2 h; exact p_X4_addEnding_B2 hV n τ res hP _ ih σ l1 l2 h
def X4_addEnding (n : Nat) (σ : am_M) (a1 : Int32) : Option am_M := X4_addEnding_L2 n n σ a1 0
set_option maxRecDepth 100000 in
set_option maxHeartbeats 4000000 in
theorem c_X4_addEnding (l : Launch) (n : Nat) (σ : am_M) (τ : Nat → Int64) (a1 : Int32) (res : am_M) (h : X4_addEnding n σ a1 = some res) : am_Con l yX4_addEnding cX4_addEnding 4 none 4 [.ref 0, .int a1] (wX4 12 σ τ) (fun (r : Option Value) (w : am_W) => r = none ∧ w = (wX4 12 res τ)) := by
  refine am_metn (n0 := 28) (own := RX4) (cd := am_cdT' tX4_addEnding) (rf := am_rfL rfX4) (ini := false) rfl (by decide +kernel) rfl (by decide) dX4_addEnding rfX4_ok (Nat.le_of_ble_eq_true rfl) ?_
  intro V hV
  have hP : (fun (r : Option Value) (w : am_W) => r = none ∧ w = (wX4 12 res τ)) none (wX4 12 res τ) := ⟨rfl, rfl⟩
  show V (wX4 12 σ τ) 0 [(0, .ref 0), (1, .int a1)] []
  unfold X4_addEnding at h
  refine hV.run 2 [] (ws' := wX4 12 σ τ) (pc' := 2) (ls' := [(2, .int 0), (0, .ref 0), (1, .int a1)]) (st' := []) (ps := []) rfl trivial ?_
  refine hV.pick [1, 2, 0] (ls' := [(0, .ref 0), (1, .int a1), (2, .int 0)]) rfl ?_
  exact p_X4_addEnding_L2 hV n τ res hP n σ a1 0 h

