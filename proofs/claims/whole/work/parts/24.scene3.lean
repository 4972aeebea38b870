def X2_goOn_J43 (n : Nat) (τ : Nat → Int64) (kont2 : am_M → Int32 → Option am_M) (σ : am_M) (l1 : Int32) : Option am_M := kont2 σ (l1 + 1)
set_option maxRecDepth 100000 in
set_option maxHeartbeats 4000000 in
theorem p_X2_goOn_J43 {l : Launch} {Post : Option Value → am_W → Prop} {V : am_VT} (hV : am_B l RX2 false 5 (am_cdT' tX2_goOn) (am_rfL rfX2) none Post 19 V) (n : Nat) (τ : Nat → Int64) (res : am_M) (hP : Post none (wX2 11 res τ)) (kont2 : am_M → Int32 → Option am_M) (hk2 : ∀ (σ : am_M) (l1 : Int32), kont2 σ l1 = some res → V (wX2 11 σ τ) 2 [(0, .ref 0), (1, .int l1)] []) (σ : am_M) (l1 : Int32) (h : X2_goOn_J43 n τ kont2 σ l1 = some res) : V (wX2 11 σ τ) 43 [(0, .ref 0), (1, .int l1)] [] := by
  unfold X2_goOn_J43 at h
  refine hV.run 2 [] (ws' := wX2 11 σ τ) (pc' := 2) (ls' := [(1, .int (l1 + 1)), (0, .ref 0)]) (st' := []) (ps := []) rfl trivial ?_
  refine hV.pick [1, 0] (ls' := [(0, .ref 0), (1, .int (l1 + 1))]) rfl ?_
  exact hk2 σ (l1 + 1) h
def X2_goOn_B2 (n : Nat) (τ : Nat → Int64) (kont2 : am_M → Int32 → Option am_M) (σ : am_M) (l1 : Int32) : Option am_M := if (σ 0 1) ≤ l1 then (some (sC σ 0 (am_u (σ 0) 15 0))) else (if (((σ 0 15) >>> (l1 &&& 31)) &&& 1) = 1 then (X2_arrive n τ σ l1 (jat 40 (σ 13) (X2_get σ l1 0))).bind (fun q3 => X2_goOn_J43 n τ kont2 q3 l1) else (X2_goOn_J43 n τ kont2 σ l1))
def X2_goOn_L2 (n : Nat) (τ : Nat → Int64) : Nat → am_M → Int32 → Option am_M
 | 0 => fun _ _ => none
 | k + 1 => fun σ l1 => X2_goOn_B2 n τ (X2_goOn_L2 n τ k) σ l1
set_option maxRecDepth 100000 in
set_option maxHeartbeats 4000000 in
theorem p_X2_goOn_B2 {l : Launch} {Post : Option Value → am_W → Prop} {V : am_VT} (hV : am_B l RX2 false 5 (am_cdT' tX2_goOn) (am_rfL rfX2) none Post 19 V) (n : Nat) (τ : Nat → Int64) (res : am_M) (hP : Post none (wX2 11 res τ)) (kont2 : am_M → Int32 → Option am_M) (hk2 : ∀ (σ : am_M) (l1 : Int32), kont2 σ l1 = some res → V (wX2 11 σ τ) 2 [(0, .ref 0), (1, .int l1)] []) (σ : am_M) (l1 : Int32) (h : X2_goOn_B2 n τ kont2 σ l1 = some res) : V (wX2 11 σ τ) 2 [(0, .ref 0), (1, .int l1)] [] := by
  unfold X2_goOn_B2 at h
  by_cases c1 : (σ 0 1) ≤ l1
  · rw [if_pos c1] at h
    refine hV.run 7 [1] (ws' := wX2 11 (sC σ 0 (am_u (σ 0) 15 0)) τ) (pc' := 54) (ls' := [(0, .ref 0), (1, .int l1)]) (st' := []) (ps := [(σ 0 1) ≤ l1]) rfl ⟨c1, trivial⟩ ?_
    cases h
    exact hV.rv rfl rfl rfl hP
  · rw [if_neg c1] at h
    by_cases c2 : (((σ 0 15) >>> (l1 &&& 31)) &&& 1) = 1
    · rw [if_pos c2] at h
      refine hV.run 20 [0, 0] (ws' := wX2 11 σ τ) (pc' := 34) (ls' := [(0, .ref 0), (1, .int l1)]) (st' := [.int 0, .int l1, .ref 0, .ref 13, .int l1, .ref 0]) (ps := [¬ (σ 0 1) ≤ l1, (((σ 0 15) >>> (l1 &&& 31)) &&& 1) = 1]) rfl ⟨c1, c2, trivial⟩ ?_
      refine hV.cOi (as := [.int l1, .int 0]) (rest := [.ref 13, .int l1, .ref 0]) (st := [.int 0, .int l1, .ref 0, .ref 13, .int l1, .ref 0]) (ws2 := wX2 11 σ τ) (pc2 := 37) kX2_81 (c_X2_get l σ τ l1 0) rfl rfl rfl rfl rfl rfl rfl rfl rfl ?_
      refine hV.cSi (as := [.ref 0, .int (X2_get σ l1 0)]) (js := [13]) (rest := [.int l1, .ref 0]) (st := [.int (X2_get σ l1 0), .ref 13, .int l1, .ref 0]) (ws2 := wX2 11 σ τ) (pc2 := 40) kX2_110 (c_at l 1 40 (by decide) (σ 13) (X2_get σ l1 0)) rfl rfl rfl rfl rfl rfl rfl rfl rfl rfl ?_
      obtain ⟨q3, hq3, h⟩ := am_bind h
      refine hV.cOv (as := [.int l1, .int (jat 40 (σ 13) (X2_get σ l1 0))]) (rest := []) (st := [.int (jat 40 (σ 13) (X2_get σ l1 0)), .int l1, .ref 0]) (ws2 := wX2 11 q3 τ) (pc2 := 43) kX2_77 (c_X2_arrive l n τ σ l1 (jat 40 (σ 13) (X2_get σ l1 0)) q3 hq3) rfl rfl rfl rfl rfl rfl rfl rfl rfl ?_
      exact p_X2_goOn_J43 hV n τ res hP kont2 hk2 q3 l1 h
    · rw [if_neg c2] at h
      refine hV.run 12 [0, 1] (ws' := wX2 11 σ τ) (pc' := 43) (ls' := [(0, .ref 0), (1, .int l1)]) (st' := []) (ps := [¬ (σ 0 1) ≤ l1, ¬ (((σ 0 15) >>> (l1 &&& 31)) &&& 1) = 1]) rfl ⟨c1, c2, trivial⟩ ?_
      exact p_X2_goOn_J43 hV n τ res hP kont2 hk2 σ l1 h
theorem p_X2_goOn_L2 {l : Launch} {Post : Option Value → am_W → Prop} {V : am_VT} (hV : am_B l RX2 false 5 (am_cdT' tX2_goOn) (am_rfL rfX2) none Post 19 V) (n : Nat) (τ : Nat → Int64) (res : am_M) (hP : Post none (wX2 11 res τ)) : ∀ (k : Nat) (σ : am_M) (l1 : Int32) (h : X2_goOn_L2 n τ k σ l1 = some res), V (wX2 11 σ τ) 2 [(0, .ref 0), (1, .int l1)] [] := by
  intro k
  induction k with
  | zero => intro σ l1 h; cases h
  | succ k ih => intro σ l1 h; exact p_X2_goOn_B2 hV n τ res hP _ ih σ l1 h
def X2_goOn (n : Nat) (τ : Nat → Int64) (σ : am_M) : Option am_M := X2_goOn_L2 n τ n σ 0
set_option maxRecDepth 100000 in
set_option maxHeartbeats 4000000 in
theorem c_X2_goOn (l : Launch) (n : Nat) (τ : Nat → Int64) (σ : am_M) (res : am_M) (h : X2_goOn n τ σ = some res) : am_Con l yX2_goOn cX2_goOn 2 none 5 [.ref 0] (wX2 11 σ τ) (fun (r : Option Value) (w : am_W) => r = none ∧ w = (wX2 11 res τ)) := by
  refine am_metn (n0 := 19) (own := RX2) (cd := am_cdT' tX2_goOn) (rf := am_rfL rfX2) (ini := false) rfl (by decide +kernel) rfl (by decide) dX2_goOn rfX2_ok (Nat.le_of_ble_eq_true rfl) ?_
  intro V hV
  have hP : (fun (r : Option Value) (w : am_W) => r = none ∧ w = (wX2 11 res τ)) none (wX2 11 res τ) := ⟨rfl, rfl⟩
  show V (wX2 11 σ τ) 0 [(0, .ref 0)] []
  unfold X2_goOn at h
  refine hV.run 2 [] (ws' := wX2 11 σ τ) (pc' := 2) (ls' := [(1, .int 0), (0, .ref 0)]) (st' := []) (ps := []) rfl trivial ?_
  refine hV.pick [1, 0] (ls' := [(0, .ref 0), (1, .int 0)]) rfl ?_
  exact p_X2_goOn_L2 hV n τ res hP n σ 0 h

def X2_begin_B86 (n : Nat) (kont86 : am_M → (Nat → Int64) → Int32 → Int32 → Option (am_M × (Nat → Int64))) (σ : am_M) (τ : Nat → Int64) (l2 : Int32) (l8 : Int32) : Option (am_M × (Nat → Int64)) := if l2 ≤ l8 then (some (σ, τ)) else (X2_set σ l8 6 l8).bind (fun q2 => (X2_set q2 l8 7 l2).bind (fun q3 => (X2_arrive n τ q3 l8 0).bind (fun q4 => kont86 q4 τ l2 (l8 + 1))))
def X2_begin_L86 (n : Nat) : Nat → am_M → (Nat → Int64) → Int32 → Int32 → Option (am_M × (Nat → Int64))
 | 0 => fun _ _ _ _ => none
 | k + 1 => fun σ τ l2 l8 => X2_begin_B86 n (X2_begin_L86 n k) σ τ l2 l8
set_option maxRecDepth 100000 in
set_option maxHeartbeats 4000000 in
theorem p_X2_begin_B86 {l : Launch} {Post : Option Value → am_W → Prop} {V : am_VT} (hV : am_B l RX2 false 5 (am_cdT' tX2_begin) (am_rfL rfX2) none Post 19 V) (n : Nat) (res : (am_M × (Nat → Int64))) (hP : Post none (wX2 11 res.1 res.2)) (kont86 : am_M → (Nat → Int64) → Int32 → Int32 → Option (am_M × (Nat → Int64))) (hk86 : ∀ (σ : am_M) (τ : Nat → Int64) (l2 : Int32) (l8 : Int32), kont86 σ τ l2 l8 = some res → V (wX2 11 σ τ) 86 [(0, .ref 0), (2, .int l2), (8, .int l8)] []) (σ : am_M) (τ : Nat → Int64) (l2 : Int32) (l8 : Int32) (h : X2_begin_B86 n kont86 σ τ l2 l8 = some res) : V (wX2 11 σ τ) 86 [(0, .ref 0), (2, .int l2), (8, .int l8)] [] := by
  unfold X2_begin_B86 at h
  by_cases c1 : l2 ≤ l8
  · rw [if_pos c1] at h
    refine hV.run 3 [1] (ws' := wX2 11 σ τ) (pc' := 124) (ls' := [(0, .ref 0), (2, .int l2), (8, .int l8)]) (st' := []) (ps := [l2 ≤ l8]) rfl ⟨c1, trivial⟩ ?_
    cases h
    exact hV.rv rfl rfl rfl hP
  · rw [if_neg c1] at h
    refine hV.run 7 [0] (ws' := wX2 11 σ τ) (pc' := 99) (ls' := [(0, .ref 0), (2, .int l2), (8, .int l8)]) (st' := [.int l8, .int 6, .int l8, .ref 0]) (ps := [¬ l2 ≤ l8]) rfl ⟨c1, trivial⟩ ?_
    obtain ⟨q2, hq2, h⟩ := am_bind h
    refine hV.cOv (as := [.int l8, .int 6, .int l8]) (rest := []) (st := [.int l8, .int 6, .int l8, .ref 0]) (ws2 := wX2 11 q2 τ) (pc2 := 102) kX2_73 (c_X2_set l σ τ l8 6 l8 q2 hq2) rfl rfl rfl rfl rfl rfl rfl rfl rfl ?_
    refine hV.run 4 [] (ws' := wX2 11 q2 τ) (pc' := 108) (ls' := [(0, .ref 0), (2, .int l2), (8, .int l8)]) (st' := [.int l2, .int 7, .int l8, .ref 0]) (ps := []) rfl trivial ?_
    obtain ⟨q3, hq3, h⟩ := am_bind h
    refine hV.cOv (as := [.int l8, .int 7, .int l2]) (rest := []) (st := [.int l2, .int 7, .int l8, .ref 0]) (ws2 := wX2 11 q3 τ) (pc2 := 111) kX2_73 (c_X2_set l q2 τ l8 7 l2 q3 hq3) rfl rfl rfl rfl rfl rfl rfl rfl rfl ?_
    refine hV.run 3 [] (ws' := wX2 11 q3 τ) (pc' := 115) (ls' := [(0, .ref 0), (2, .int l2), (8, .int l8)]) (st' := [.int 0, .int l8, .ref 0]) (ps := []) rfl trivial ?_
    obtain ⟨q4, hq4, h⟩ := am_bind h
    refine hV.cOv (as := [.int l8, .int 0]) (rest := []) (st := [.int 0, .int l8, .ref 0]) (ws2 := wX2 11 q4 τ) (pc2 := 118) kX2_77 (c_X2_arrive l n τ q3 l8 0 q4 hq4) rfl rfl rfl rfl rfl rfl rfl rfl rfl ?_
    refine hV.run 2 [] (ws' := wX2 11 q4 τ) (pc' := 86) (ls' := [(8, .int (l8 + 1)), (0, .ref 0), (2, .int l2)]) (st' := []) (ps := []) rfl trivial ?_
    refine hV.pick [1, 2, 0] (ls' := [(0, .ref 0), (2, .int l2), (8, .int (l8 + 1))]) rfl ?_
    exact hk86 q4 τ l2 (l8 + 1) h
theorem p_X2_begin_L86 {l : Launch} {Post : Option Value → am_W → Prop} {V : am_VT} (hV : am_B l RX2 false 5 (am_cdT' tX2_begin) (am_rfL rfX2) none Post 19 V) (n : Nat) (res : (am_M × (Nat → Int64))) (hP : Post none (wX2 11 res.1 res.2)) : ∀ (k : Nat) (σ : am_M) (τ : Nat → Int64) (l2 : Int32) (l8 : Int32) (h : X2_begin_L86 n k σ τ l2 l8 = some res), V (wX2 11 σ τ) 86 [(0, .ref 0), (2, .int l2), (8, .int l8)] [] := by
  intro k
  induction k with
  | zero => intro σ τ l2 l8 h; cases h
  | succ k ih => intro σ τ l2 l8 h; exact p_X2_begin_B86 hV n res hP _ ih σ τ l2 l8 h
def X2_begin (n : Nat) (σ : am_M) (τ : Nat → Int64) (a2 : Int32) (a3 : Int32) (a4 : Int32) (a5 : Int32) (a6 : Int64) : Option (am_M × (Nat → Int64)) := X2_begin_L86 n n (sC (sC (sC (sC (sC (sC σ 0 (am_u (am_u (am_u (am_u (am_u (am_u (σ 0) 1 a2) 2 a3) 3 a4) 4 a5) 12 (-1)) 15 0)) 1 (jfill 104 (σ 1) 0)) 2 (am_u (σ 2) 4 0)) 8 (jfill 8 (σ 8) 0)) 9 (jfill 8 (σ 9) 0)) 10 (jfill 8 (σ 10) 0)) (upd64 τ 0 a6) a2 0
set_option maxRecDepth 100000 in
set_option maxHeartbeats 4000000 in
theorem c_X2_begin (l : Launch) (n : Nat) (σ : am_M) (τ : Nat → Int64) (a2 : Int32) (a3 : Int32) (a4 : Int32) (a5 : Int32) (a6 : Int64) (res : (am_M × (Nat → Int64))) (h : X2_begin n σ τ a2 a3 a4 a5 a6 = some res) : am_Con l yX2_begin cX2_begin 9 none 5 [.ref 0, .ref 11, .int a2, .int a3, .int a4, .int a5, .long a6] (wX2 19 σ τ) (fun (r : Option Value) (w : am_W) => r = none ∧ w = (wX2 11 res.1 res.2)) := by
  refine am_metn (n0 := 19) (own := RX2) (cd := am_cdT' tX2_begin) (rf := am_rfL rfX2) (ini := false) rfl (by decide +kernel) rfl (by decide) dX2_begin rfX2_ok (Nat.le_of_ble_eq_true rfl) ?_
  intro V hV
  have hP : (fun (r : Option Value) (w : am_W) => r = none ∧ w = (wX2 11 res.1 res.2)) none (wX2 11 res.1 res.2) := ⟨rfl, rfl⟩
  show V (wX2 19 σ τ) 0 [(0, .ref 0), (1, .ref 11), (2, .int a2), (3, .int a3), (4, .int a4), (5, .int a5), (6, .long a6)] []
  unfold X2_begin at h
  refine hV.run 21 [] (ws' := wX2 11 (sC σ 0 (am_u (am_u (am_u (am_u (σ 0) 1 a2) 2 a3) 3 a4) 4 a5)) (upd64 τ 0 a6)) (pc' := 38) (ls' := [(0, .ref 0), (1, .ref 11), (2, .int a2), (3, .int a3), (4, .int a4), (5, .int a5), (6, .long a6)]) (st' := [.int 0, .ref 1]) (ps := []) rfl trivial ?_
  refine hV.cSv (as := [.ref 0, .int 0]) (js := [1]) (rest := []) (st := [.int 0, .ref 1]) (ws2 := wX2 11 (sC (sC σ 0 (am_u (am_u (am_u (am_u (σ 0) 1 a2) 2 a3) 3 a4) 4 a5)) 1 (jfill 104 (σ 1) 0)) (upd64 τ 0 a6)) (pc2 := 41) kX2_58 (c_fill l 1 104 (by decide) (σ 1) 0) rfl rfl rfl rfl rfl rfl rfl rfl rfl rfl ?_
  refine hV.run 3 [] (ws' := wX2 11 (sC (sC σ 0 (am_u (am_u (am_u (am_u (σ 0) 1 a2) 2 a3) 3 a4) 4 a5)) 1 (jfill 104 (σ 1) 0)) (upd64 τ 0 a6)) (pc' := 46) (ls' := [(0, .ref 0), (1, .ref 11), (2, .int a2), (3, .int a3), (4, .int a4), (5, .int a5), (6, .long a6)]) (st' := [.int 0, .ref 8]) (ps := []) rfl trivial ?_
  refine hV.cSv (as := [.ref 0, .int 0]) (js := [8]) (rest := []) (st := [.int 0, .ref 8]) (ws2 := wX2 11 (sC (sC (sC σ 0 (am_u (am_u (am_u (am_u (σ 0) 1 a2) 2 a3) 3 a4) 4 a5)) 1 (jfill 104 (σ 1) 0)) 8 (jfill 8 (σ 8) 0)) (upd64 τ 0 a6)) (pc2 := 49) kX2_58 (c_fill l 1 8 (by decide) (σ 8) 0) rfl rfl rfl rfl rfl rfl rfl rfl rfl rfl ?_
  refine hV.run 3 [] (ws' := wX2 11 (sC (sC (sC σ 0 (am_u (am_u (am_u (am_u (σ 0) 1 a2) 2 a3) 3 a4) 4 a5)) 1 (jfill 104 (σ 1) 0)) 8 (jfill 8 (σ 8) 0)) (upd64 τ 0 a6)) (pc' := 54) (ls' := [(0, .ref 0), (1, .ref 11), (2, .int a2), (3, .int a3), (4, .int a4), (5, .int a5), (6, .long a6)]) (st' := [.int 0, .ref 9]) (ps := []) rfl trivial ?_
  refine hV.cSv (as := [.ref 0, .int 0]) (js := [9]) (rest := []) (st := [.int 0, .ref 9]) (ws2 := wX2 11 (sC (sC (sC (sC σ 0 (am_u (am_u (am_u (am_u (σ 0) 1 a2) 2 a3) 3 a4) 4 a5)) 1 (jfill 104 (σ 1) 0)) 8 (jfill 8 (σ 8) 0)) 9 (jfill 8 (σ 9) 0)) (upd64 τ 0 a6)) (pc2 := 57) kX2_58 (c_fill l 1 8 (by decide) (σ 9) 0) rfl rfl rfl rfl rfl rfl rfl rfl rfl rfl ?_
  refine hV.run 3 [] (ws' := wX2 11 (sC (sC (sC (sC σ 0 (am_u (am_u (am_u (am_u (σ 0) 1 a2) 2 a3) 3 a4) 4 a5)) 1 (jfill 104 (σ 1) 0)) 8 (jfill 8 (σ 8) 0)) 9 (jfill 8 (σ 9) 0)) (upd64 τ 0 a6)) (pc' := 62) (ls' := [(0, .ref 0), (1, .ref 11), (2, .int a2), (3, .int a3), (4, .int a4), (5, .int a5), (6, .long a6)]) (st' := [.int 0, .ref 10]) (ps := []) rfl trivial ?_
  refine hV.cSv (as := [.ref 0, .int 0]) (js := [10]) (rest := []) (st := [.int 0, .ref 10]) (ws2 := wX2 11 (sC (sC (sC (sC (sC σ 0 (am_u (am_u (am_u (am_u (σ 0) 1 a2) 2 a3) 3 a4) 4 a5)) 1 (jfill 104 (σ 1) 0)) 8 (jfill 8 (σ 8) 0)) 9 (jfill 8 (σ 9) 0)) 10 (jfill 8 (σ 10) 0)) (upd64 τ 0 a6)) (pc2 := 65) kX2_58 (c_fill l 1 8 (by decide) (σ 10) 0) rfl rfl rfl rfl rfl rfl rfl rfl rfl rfl ?_
  refine hV.run 12 [] (ws' := wX2 11 (sC (sC (sC (sC (sC (sC σ 0 (am_u (am_u (am_u (am_u (am_u (am_u (σ 0) 1 a2) 2 a3) 3 a4) 4 a5) 12 (-1)) 15 0)) 1 (jfill 104 (σ 1) 0)) 2 (am_u (σ 2) 4 0)) 8 (jfill 8 (σ 8) 0)) 9 (jfill 8 (σ 9) 0)) 10 (jfill 8 (σ 10) 0)) (upd64 τ 0 a6)) (pc' := 86) (ls' := [(8, .int 0), (0, .ref 0), (1, .ref 11), (2, .int a2), (3, .int a3), (4, .int a4), (5, .int a5), (6, .long a6)]) (st' := []) (ps := []) rfl trivial ?_
  refine hV.pick [1, 3, 0] (ls' := [(0, .ref 0), (2, .int a2), (8, .int 0)]) rfl ?_
  exact p_X2_begin_L86 hV n res hP n (sC (sC (sC (sC (sC (sC σ 0 (am_u (am_u (am_u (am_u (am_u (am_u (σ 0) 1 a2) 2 a3) 3 a4) 4 a5) 12 (-1)) 15 0)) 1 (jfill 104 (σ 1) 0)) 2 (am_u (σ 2) 4 0)) 8 (jfill 8 (σ 8) 0)) 9 (jfill 8 (σ 9) 0)) 10 (jfill 8 (σ 10) 0)) (upd64 τ 0 a6) a2 0 h

