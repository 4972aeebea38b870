def wX4 (x : Nat) (σ : am_M) (τ : Nat → Int64) : am_W := [.inr (4, [.ref 1, .ref 20, .ref 21, .ref 22, .ref 23, .ref 24, .ref 25, .ref 26, .ref 27, .int (σ 0 9), .int (σ 0 10), .int (σ 0 11), .int (σ 0 12), .int (σ 0 13), .int (σ 0 14), .long (τ 0)]),
  .inr (2, [.ref x, .int (σ 1 1), .int (σ 1 2), .int (σ 1 3), .int (σ 1 4), .long (τ 1), .ref 2, .ref 3, .ref 8, .ref 9, .ref 10, .ref 11, .int (σ 1 12), .int (σ 1 13), .int (σ 1 14), .int (σ 1 15)]),
  .inl (0, 104, .inl (σ 2)),
  .inr (6, [.ref 4, .ref 5, .ref 6, .ref 7, .int (σ 3 4)]),
  .inl (0, 320, .inl (σ 4)),
  .inl (0, 320, .inl (σ 5)),
  .inl (0, 320, .inl (σ 6)),
  .inl (0, 320, .inl (σ 7)),
  .inl (0, 40, .inl (σ 8)),
  .inl (0, 8, .inl (σ 9)),
  .inl (0, 8, .inl (σ 10)),
  .inl (0, 8, .inl (σ 11)),
  .inr (3, [.ref 13, .ref 14, .ref 15, .ref 16, .ref 17, .ref 18, .ref 19, .int (σ 12 7), .int (σ 12 8), .int (σ 12 9)]),
  .inl (0, 40, .inl (σ 13)),
  .inl (0, 40, .inl (σ 14)),
  .inl (0, 40, .inl (σ 15)),
  .inl (0, 40, .inl (σ 16)),
  .inl (0, 40, .inl (σ 17)),
  .inl (0, 120, .inl (σ 18)),
  .inl (0, 900, .inl (σ 19)),
  .inl (0, 20800, .inl (σ 20)),
  .inl (0, 59700, .inl (σ 21)),
  .inl (0, 201, .inl (σ 22)),
  .inl (0, 200, .inl (σ 23)),
  .inl (0, 512, .inl (σ 24)),
  .inl (0, 200, .inl (σ 25)),
  .inl (0, 200, .inl (σ 26)),
  .inl (0, 320, .inl (σ 27))]
def X4_forget (σ : am_M) : Option am_M := some (sC σ 0 (am_u (σ 0) 12 0))
set_option maxRecDepth 100000 in
set_option maxHeartbeats 4000000 in
theorem c_X4_forget (l : Launch) (σ : am_M) (τ : Nat → Int64) (x : Nat) (res : am_M) (h : X4_forget σ = some res) : am_Con l yX4_forget cX4_forget 1 none 1 [.ref 0] (wX4 x σ τ) (fun (r : Option Value) (w : am_W) => r = none ∧ w = (wX4 x res τ)) := by
  refine am_metn (n0 := 28) (own := RX4) (cd := am_cdT' tX4_forget) (rf := am_rfL rfX4) (ini := false) rfl (by decide +kernel) rfl (by decide) dX4_forget rfX4_ok (Nat.le_of_ble_eq_true rfl) ?_
  intro V hV
  have hP : (fun (r : Option Value) (w : am_W) => r = none ∧ w = (wX4 x res τ)) none (wX4 x res τ) := ⟨rfl, rfl⟩
  show V (wX4 x σ τ) 0 [(0, .ref 0)] []
  unfold X4_forget at h
  refine hV.run 3 [] (ws' := wX4 x (sC σ 0 (am_u (σ 0) 12 0)) τ) (pc' := 5) (ls' := [(0, .ref 0)]) (st' := []) (ps := [(0 : Int32) = 0 ∨ (0 : Int32) = 1]) rfl ⟨(Or.inl rfl), trivial⟩ ?_
  cases h
  exact hV.rv rfl rfl rfl hP

def X4_noteTaker (σ : am_M) : Option am_M := if (σ 1 12) = (-1) then (some σ) else (some (sC σ 27 (jput 320 (σ 27) (((σ 1 12) * 40) + (σ 1 13)) ((jat 320 (σ 27) (((σ 1 12) * 40) + (σ 1 13))) ||| (1 <<< ((σ 1 14) &&& 31))))))
set_option maxRecDepth 100000 in
set_option maxHeartbeats 4000000 in
theorem c_X4_noteTaker (l : Launch) (σ : am_M) (τ : Nat → Int64) (res : am_M) (h : X4_noteTaker σ = some res) : am_Con l yX4_noteTaker cX4_noteTaker 2 none 2 [.ref 0] (wX4 12 σ τ) (fun (r : Option Value) (w : am_W) => r = none ∧ w = (wX4 12 res τ)) := by
  refine am_metn (n0 := 28) (own := RX4) (cd := am_cdT' tX4_noteTaker) (rf := am_rfL rfX4) (ini := false) rfl (by decide +kernel) rfl (by decide) dX4_noteTaker rfX4_ok (Nat.le_of_ble_eq_true rfl) ?_
  intro V hV
  have hP : (fun (r : Option Value) (w : am_W) => r = none ∧ w = (wX4 12 res τ)) none (wX4 12 res τ) := ⟨rfl, rfl⟩
  show V (wX4 12 σ τ) 0 [(0, .ref 0)] []
  unfold X4_noteTaker at h
  by_cases c1 : (σ 1 12) = (-1)
  · rw [if_pos c1] at h
    refine hV.run 5 [1] (ws' := wX4 12 σ τ) (pc' := 56) (ls' := [(0, .ref 0)]) (st' := []) (ps := [(σ 1 12) = (-1)]) rfl ⟨c1, trivial⟩ ?_
    cases h
    exact hV.rv rfl rfl rfl hP
  · rw [if_neg c1] at h
    refine hV.run 21 [0] (ws' := wX4 12 σ τ) (pc' := 40) (ls' := [(1, .int (((σ 1 12) * 40) + (σ 1 13))), (0, .ref 0)]) (st' := [.int (((σ 1 12) * 40) + (σ 1 13)), .ref 27, .int (((σ 1 12) * 40) + (σ 1 13)), .ref 27]) (ps := [¬ (σ 1 12) = (-1)]) rfl ⟨c1, trivial⟩ ?_
    refine hV.cSi (as := [.ref 0, .int (((σ 1 12) * 40) + (σ 1 13))]) (js := [27]) (rest := [.int (((σ 1 12) * 40) + (σ 1 13)), .ref 27]) (st := [.int (((σ 1 12) * 40) + (σ 1 13)), .ref 27, .int (((σ 1 12) * 40) + (σ 1 13)), .ref 27]) (ws2 := wX4 12 σ τ) (pc2 := 43) kX4_123 (c_at l 1 320 (by decide) (σ 27) (((σ 1 12) * 40) + (σ 1 13))) rfl rfl rfl rfl rfl rfl rfl rfl rfl rfl ?_
    refine hV.run 6 [] (ws' := wX4 12 σ τ) (pc' := 53) (ls' := [(1, .int (((σ 1 12) * 40) + (σ 1 13))), (0, .ref 0)]) (st' := [.int ((jat 320 (σ 27) (((σ 1 12) * 40) + (σ 1 13))) ||| (1 <<< ((σ 1 14) &&& 31))), .int (((σ 1 12) * 40) + (σ 1 13)), .ref 27]) (ps := []) rfl trivial ?_
    refine hV.cSv (as := [.ref 0, .int (((σ 1 12) * 40) + (σ 1 13)), .int ((jat 320 (σ 27) (((σ 1 12) * 40) + (σ 1 13))) ||| (1 <<< ((σ 1 14) &&& 31)))]) (js := [27]) (rest := []) (st := [.int ((jat 320 (σ 27) (((σ 1 12) * 40) + (σ 1 13))) ||| (1 <<< ((σ 1 14) &&& 31))), .int (((σ 1 12) * 40) + (σ 1 13)), .ref 27]) (ws2 := wX4 12 (sC σ 27 (jput 320 (σ 27) (((σ 1 12) * 40) + (σ 1 13)) ((jat 320 (σ 27) (((σ 1 12) * 40) + (σ 1 13))) ||| (1 <<< ((σ 1 14) &&& 31))))) τ) (pc2 := 56) kX4_68 (c_put l 1 320 (by decide) (σ 27) (((σ 1 12) * 40) + (σ 1 13)) ((jat 320 (σ 27) (((σ 1 12) * 40) + (σ 1 13))) ||| (1 <<< ((σ 1 14) &&& 31)))) rfl rfl rfl rfl rfl rfl rfl rfl rfl rfl ?_
    cases h
    exact hV.rv rfl rfl rfl hP

def X4_load_B69 (n : Nat) (kont69 : am_M → Int32 → Int32 → Option am_M) (σ : am_M) (l3 : Int32) (l4 : Int32) : Option am_M := if (σ 3 4) ≤ l4 then (some σ) else (kont69 (sC (sC (sC (sC σ 4 (jput 320 (σ 4) l4 (jat 59700 (σ 21) ((l3 + l4) * 3)))) 5 (jput 320 (σ 5) l4 (jat 59700 (σ 21) (((l3 + l4) * 3) + 1)))) 6 (jput 320 (σ 6) l4 (jat 59700 (σ 21) (((l3 + l4) * 3) + 2)))) 7 (jput 320 (σ 7) l4 0)) l3 (l4 + 1))
def X4_load_L69 (n : Nat) : Nat → am_M → Int32 → Int32 → Option am_M
 | 0 => fun _ _ _ => none
 | k + 1 => fun σ l3 l4 => X4_load_B69 n (X4_load_L69 n k) σ l3 l4
set_option maxRecDepth 100000 in
set_option maxHeartbeats 4000000 in
theorem p_X4_load_B69 {l : Launch} {Post : Option Value → am_W → Prop} {V : am_VT} (hV : am_B l RX4 false 2 (am_cdT' tX4_load) (am_rfL rfX4) none Post 28 V) (n : Nat) (τ : Nat → Int64) (res : am_M) (hP : Post none (wX4 12 res τ)) (kont69 : am_M → Int32 → Int32 → Option am_M) (hk69 : ∀ (σ : am_M) (l3 : Int32) (l4 : Int32), kont69 σ l3 l4 = some res → V (wX4 12 σ τ) 69 [(0, .ref 0), (2, .ref 3), (3, .int l3), (4, .int l4)] []) (σ : am_M) (l3 : Int32) (l4 : Int32) (h : X4_load_B69 n kont69 σ l3 l4 = some res) : V (wX4 12 σ τ) 69 [(0, .ref 0), (2, .ref 3), (3, .int l3), (4, .int l4)] [] := by
  unfold X4_load_B69 at h
  by_cases c1 : (σ 3 4) ≤ l4
  · rw [if_pos c1] at h
    refine hV.run 4 [1] (ws' := wX4 12 σ τ) (pc' := 160) (ls' := [(0, .ref 0), (2, .ref 3), (3, .int l3), (4, .int l4)]) (st' := []) (ps := [(σ 3 4) ≤ l4]) rfl ⟨c1, trivial⟩ ?_
    cases h
    exact hV.rv rfl rfl rfl hP
  · rw [if_neg c1] at h
    refine hV.run 16 [0] (ws' := wX4 12 σ τ) (pc' := 98) (ls' := [(5, .int ((l3 + l4) * 3)), (0, .ref 0), (2, .ref 3), (3, .int l3), (4, .int l4)]) (st' := [.int ((l3 + l4) * 3), .ref 21, .int l4, .ref 4]) (ps := [¬ (σ 3 4) ≤ l4]) rfl ⟨c1, trivial⟩ ?_
    refine hV.cSi (as := [.ref 0, .int ((l3 + l4) * 3)]) (js := [21]) (rest := [.int l4, .ref 4]) (st := [.int ((l3 + l4) * 3), .ref 21, .int l4, .ref 4]) (ws2 := wX4 12 σ τ) (pc2 := 101) kX4_123 (c_at l 1 59700 (by decide) (σ 21) ((l3 + l4) * 3)) rfl rfl rfl rfl rfl rfl rfl rfl rfl rfl ?_
    refine hV.cSv (as := [.ref 0, .int l4, .int (jat 59700 (σ 21) ((l3 + l4) * 3))]) (js := [4]) (rest := []) (st := [.int (jat 59700 (σ 21) ((l3 + l4) * 3)), .int l4, .ref 4]) (ws2 := wX4 12 (sC σ 4 (jput 320 (σ 4) l4 (jat 59700 (σ 21) ((l3 + l4) * 3)))) τ) (pc2 := 104) kX4_68 (c_put l 1 320 (by decide) (σ 4) l4 (jat 59700 (σ 21) ((l3 + l4) * 3))) rfl rfl rfl rfl rfl rfl rfl rfl rfl rfl ?_
    refine hV.run 8 [] (ws' := wX4 12 (sC σ 4 (jput 320 (σ 4) l4 (jat 59700 (σ 21) ((l3 + l4) * 3)))) τ) (pc' := 118) (ls' := [(5, .int ((l3 + l4) * 3)), (0, .ref 0), (2, .ref 3), (3, .int l3), (4, .int l4)]) (st' := [.int (((l3 + l4) * 3) + 1), .ref 21, .int l4, .ref 5]) (ps := []) rfl trivial ?_
    refine hV.cSi (as := [.ref 0, .int (((l3 + l4) * 3) + 1)]) (js := [21]) (rest := [.int l4, .ref 5]) (st := [.int (((l3 + l4) * 3) + 1), .ref 21, .int l4, .ref 5]) (ws2 := wX4 12 (sC σ 4 (jput 320 (σ 4) l4 (jat 59700 (σ 21) ((l3 + l4) * 3)))) τ) (pc2 := 121) kX4_123 (c_at l 1 59700 (by decide) (σ 21) (((l3 + l4) * 3) + 1)) rfl rfl rfl rfl rfl rfl rfl rfl rfl rfl ?_
    refine hV.cSv (as := [.ref 0, .int l4, .int (jat 59700 (σ 21) (((l3 + l4) * 3) + 1))]) (js := [5]) (rest := []) (st := [.int (jat 59700 (σ 21) (((l3 + l4) * 3) + 1)), .int l4, .ref 5]) (ws2 := wX4 12 (sC (sC σ 4 (jput 320 (σ 4) l4 (jat 59700 (σ 21) ((l3 + l4) * 3)))) 5 (jput 320 (σ 5) l4 (jat 59700 (σ 21) (((l3 + l4) * 3) + 1)))) τ) (pc2 := 124) kX4_68 (c_put l 1 320 (by decide) (σ 5) l4 (jat 59700 (σ 21) (((l3 + l4) * 3) + 1))) rfl rfl rfl rfl rfl rfl rfl rfl rfl rfl ?_
    refine hV.run 8 [] (ws' := wX4 12 (sC (sC σ 4 (jput 320 (σ 4) l4 (jat 59700 (σ 21) ((l3 + l4) * 3)))) 5 (jput 320 (σ 5) l4 (jat 59700 (σ 21) (((l3 + l4) * 3) + 1)))) τ) (pc' := 138) (ls' := [(5, .int ((l3 + l4) * 3)), (0, .ref 0), (2, .ref 3), (3, .int l3), (4, .int l4)]) (st' := [.int (((l3 + l4) * 3) + 2), .ref 21, .int l4, .ref 6]) (ps := []) rfl trivial ?_
    refine hV.cSi (as := [.ref 0, .int (((l3 + l4) * 3) + 2)]) (js := [21]) (rest := [.int l4, .ref 6]) (st := [.int (((l3 + l4) * 3) + 2), .ref 21, .int l4, .ref 6]) (ws2 := wX4 12 (sC (sC σ 4 (jput 320 (σ 4) l4 (jat 59700 (σ 21) ((l3 + l4) * 3)))) 5 (jput 320 (σ 5) l4 (jat 59700 (σ 21) (((l3 + l4) * 3) + 1)))) τ) (pc2 := 141) kX4_123 (c_at l 1 59700 (by decide) (σ 21) (((l3 + l4) * 3) + 2)) rfl rfl rfl rfl rfl rfl rfl rfl rfl rfl ?_
    refine hV.cSv (as := [.ref 0, .int l4, .int (jat 59700 (σ 21) (((l3 + l4) * 3) + 2))]) (js := [6]) (rest := []) (st := [.int (jat 59700 (σ 21) (((l3 + l4) * 3) + 2)), .int l4, .ref 6]) (ws2 := wX4 12 (sC (sC (sC σ 4 (jput 320 (σ 4) l4 (jat 59700 (σ 21) ((l3 + l4) * 3)))) 5 (jput 320 (σ 5) l4 (jat 59700 (σ 21) (((l3 + l4) * 3) + 1)))) 6 (jput 320 (σ 6) l4 (jat 59700 (σ 21) (((l3 + l4) * 3) + 2)))) τ) (pc2 := 144) kX4_68 (c_put l 1 320 (by decide) (σ 6) l4 (jat 59700 (σ 21) (((l3 + l4) * 3) + 2))) rfl rfl rfl rfl rfl rfl rfl rfl rfl rfl ?_
    refine hV.run 4 [] (ws' := wX4 12 (sC (sC (sC σ 4 (jput 320 (σ 4) l4 (jat 59700 (σ 21) ((l3 + l4) * 3)))) 5 (jput 320 (σ 5) l4 (jat 59700 (σ 21) (((l3 + l4) * 3) + 1)))) 6 (jput 320 (σ 6) l4 (jat 59700 (σ 21) (((l3 + l4) * 3) + 2)))) τ) (pc' := 151) (ls' := [(5, .int ((l3 + l4) * 3)), (0, .ref 0), (2, .ref 3), (3, .int l3), (4, .int l4)]) (st' := [.int 0, .int l4, .ref 7]) (ps := []) rfl trivial ?_
    refine hV.cSv (as := [.ref 0, .int l4, .int 0]) (js := [7]) (rest := []) (st := [.int 0, .int l4, .ref 7]) (ws2 := wX4 12 (sC (sC (sC (sC σ 4 (jput 320 (σ 4) l4 (jat 59700 (σ 21) ((l3 + l4) * 3)))) 5 (jput 320 (σ 5) l4 (jat 59700 (σ 21) (((l3 + l4) * 3) + 1)))) 6 (jput 320 (σ 6) l4 (jat 59700 (σ 21) (((l3 + l4) * 3) + 2)))) 7 (jput 320 (σ 7) l4 0)) τ) (pc2 := 154) kX4_68 (c_put l 1 320 (by decide) (σ 7) l4 0) rfl rfl rfl rfl rfl rfl rfl rfl rfl rfl ?_
    refine hV.run 2 [] (ws' := wX4 12 (sC (sC (sC (sC σ 4 (jput 320 (σ 4) l4 (jat 59700 (σ 21) ((l3 + l4) * 3)))) 5 (jput 320 (σ 5) l4 (jat 59700 (σ 21) (((l3 + l4) * 3) + 1)))) 6 (jput 320 (σ 6) l4 (jat 59700 (σ 21) (((l3 + l4) * 3) + 2)))) 7 (jput 320 (σ 7) l4 0)) τ) (pc' := 69) (ls' := [(4, .int (l4 + 1)), (5, .int ((l3 + l4) * 3)), (0, .ref 0), (2, .ref 3), (3, .int l3)]) (st' := []) (ps := []) rfl trivial ?_
    refine hV.pick [2, 3, 4, 0] (ls' := [(0, .ref 0), (2, .ref 3), (3, .int l3), (4, .int (l4 + 1))]) rfl ?_
    exact hk69 (sC (sC (sC (sC σ 4 (jput 320 (σ 4) l4 (jat 59700 (σ 21) ((l3 + l4) * 3)))) 5 (jput 320 (σ 5) l4 (jat 59700 (σ 21) (((l3 + l4) * 3) + 1)))) 6 (jput 320 (σ 6) l4 (jat 59700 (σ 21) (((l3 + l4) * 3) + 2)))) 7 (jput 320 (σ 7) l4 0)) l3 (l4 + 1) h
theorem p_X4_load_L69 {l : Launch} {Post : Option Value → am_W → Prop} {V : am_VT} (hV : am_B l RX4 false 2 (am_cdT' tX4_load) (am_rfL rfX4) none Post 28 V) (n : Nat) (τ : Nat → Int64) (res : am_M) (hP : Post none (wX4 12 res τ)) : ∀ (k : Nat) (σ : am_M) (l3 : Int32) (l4 : Int32) (h : X4_load_L69 n k σ l3 l4 = some res), V (wX4 12 σ τ) 69 [(0, .ref 0), (2, .ref 3), (3, .int l3), (4, .int l4)] [] := by
  intro k
  induction k with
  | zero => intro σ l3 l4 h; cases h
  | succ k ih => intro σ l3 l4 h; exact p_X4_load_B69 hV n τ res hP _ ih σ l3 l4 h
def X4_load (n : Nat) (σ : am_M) (a1 : Int32) : Option am_M := if a1 < 0 then (some σ) else (if a1 < 200 then (if (a1 * 104) < 0 ∨ (0 : Int32) < 0 ∨ (104 : Int32) < 0 ∨ 20800 < (a1 * 104).toNatClampNeg + (104 : Int32).toNatClampNeg ∨ 104 < (0 : Int32).toNatClampNeg + (104 : Int32).toNatClampNeg then none else (X4_load_L69 n n (sC (sC σ 2 (va_cpy (σ 20) (σ 2) (a1 * 104).toNatClampNeg (0 : Int32).toNatClampNeg (104 : Int32).toNatClampNeg)) 3 (am_u (σ 3) 4 ((jat 201 (σ 22) (a1 + 1)) - (jat 201 (σ 22) a1)))) (jat 201 (σ 22) a1) 0)) else (some σ))
set_option maxRecDepth 100000 in
set_option maxHeartbeats 4000000 in
theorem c_X4_load (l : Launch) (n : Nat) (σ : am_M) (τ : Nat → Int64) (a1 : Int32) (res : am_M) (h : X4_load n σ a1 = some res) : am_Con l yX4_load cX4_load 6 none 2 [.ref 0, .int a1] (wX4 12 σ τ) (fun (r : Option Value) (w : am_W) => r = none ∧ w = (wX4 12 res τ)) := by
  refine am_metn (n0 := 28) (own := RX4) (cd := am_cdT' tX4_load) (rf := am_rfL rfX4) (ini := false) rfl (by decide +kernel) rfl (by decide) dX4_load rfX4_ok (Nat.le_of_ble_eq_true rfl) ?_
  intro V hV
  have hP : (fun (r : Option Value) (w : am_W) => r = none ∧ w = (wX4 12 res τ)) none (wX4 12 res τ) := ⟨rfl, rfl⟩
  show V (wX4 12 σ τ) 0 [(0, .ref 0), (1, .int a1)] []
  unfold X4_load at h
  by_cases c1 : a1 < 0
  · rw [if_pos c1] at h
    refine hV.run 2 [1] (ws' := wX4 12 σ τ) (pc' := 11) (ls' := [(0, .ref 0), (1, .int a1)]) (st' := []) (ps := [a1 < 0]) rfl ⟨c1, trivial⟩ ?_
    cases h
    exact hV.rv rfl rfl rfl hP
  · rw [if_neg c1] at h
    by_cases c2 : a1 < 200
    · rw [if_pos c2] at h
      refine hV.run 15 [0, 1] (ws' := wX4 12 σ τ) (pc' := 30) (ls' := [(0, .ref 0), (1, .int a1)]) (st' := [.int 104, .int 0, .ref 2, .int (a1 * 104), .ref 20]) (ps := [¬ a1 < 0, a1 < 200]) rfl ⟨c1, c2, trivial⟩ ?_
      by_cases g3 : (a1 * 104) < 0 ∨ (0 : Int32) < 0 ∨ (104 : Int32) < 0 ∨ 20800 < (a1 * 104).toNatClampNeg + (104 : Int32).toNatClampNeg ∨ 104 < (0 : Int32).toNatClampNeg + (104 : Int32).toNatClampNeg
      · rw [if_pos g3] at h; cases h
      rw [if_neg g3] at h
      refine hV.cp 672 20 2 (g3) (rest := []) (ws2 := wX4 12 (sC σ 2 (va_cpy (σ 20) (σ 2) (a1 * 104).toNatClampNeg (0 : Int32).toNatClampNeg (104 : Int32).toNatClampNeg)) τ) (pc2 := 33) rfl (by decide +kernel) rfl rfl rfl rfl rfl rfl ?_
      refine hV.run 7 [] (ws' := wX4 12 (sC σ 2 (va_cpy (σ 20) (σ 2) (a1 * 104).toNatClampNeg (0 : Int32).toNatClampNeg (104 : Int32).toNatClampNeg)) τ) (pc' := 46) (ls' := [(2, .ref 3), (0, .ref 0), (1, .int a1)]) (st' := [.int a1, .ref 22]) (ps := []) rfl trivial ?_
      refine hV.cSi (as := [.ref 0, .int a1]) (js := [22]) (rest := []) (st := [.int a1, .ref 22]) (ws2 := wX4 12 (sC σ 2 (va_cpy (σ 20) (σ 2) (a1 * 104).toNatClampNeg (0 : Int32).toNatClampNeg (104 : Int32).toNatClampNeg)) τ) (pc2 := 49) kX4_123 (c_at l 1 201 (by decide) (σ 22) a1) rfl rfl rfl rfl rfl rfl rfl rfl rfl rfl ?_
      refine hV.run 7 [] (ws' := wX4 12 (sC σ 2 (va_cpy (σ 20) (σ 2) (a1 * 104).toNatClampNeg (0 : Int32).toNatClampNeg (104 : Int32).toNatClampNeg)) τ) (pc' := 58) (ls' := [(3, .int (jat 201 (σ 22) a1)), (2, .ref 3), (0, .ref 0), (1, .int a1)]) (st' := [.int (a1 + 1), .ref 22, .ref 3]) (ps := []) rfl trivial ?_
      refine hV.cSi (as := [.ref 0, .int (a1 + 1)]) (js := [22]) (rest := [.ref 3]) (st := [.int (a1 + 1), .ref 22, .ref 3]) (ws2 := wX4 12 (sC σ 2 (va_cpy (σ 20) (σ 2) (a1 * 104).toNatClampNeg (0 : Int32).toNatClampNeg (104 : Int32).toNatClampNeg)) τ) (pc2 := 61) kX4_123 (c_at l 1 201 (by decide) (σ 22) (a1 + 1)) rfl rfl rfl rfl rfl rfl rfl rfl rfl rfl ?_
      refine hV.run 5 [] (ws' := wX4 12 (sC (sC σ 2 (va_cpy (σ 20) (σ 2) (a1 * 104).toNatClampNeg (0 : Int32).toNatClampNeg (104 : Int32).toNatClampNeg)) 3 (am_u (σ 3) 4 ((jat 201 (σ 22) (a1 + 1)) - (jat 201 (σ 22) a1)))) τ) (pc' := 69) (ls' := [(4, .int 0), (3, .int (jat 201 (σ 22) a1)), (2, .ref 3), (0, .ref 0), (1, .int a1)]) (st' := []) (ps := []) rfl trivial ?_
      refine hV.pick [3, 2, 1, 0] (ls' := [(0, .ref 0), (2, .ref 3), (3, .int (jat 201 (σ 22) a1)), (4, .int 0)]) rfl ?_
      exact p_X4_load_L69 hV n τ res hP n (sC (sC σ 2 (va_cpy (σ 20) (σ 2) (a1 * 104).toNatClampNeg (0 : Int32).toNatClampNeg (104 : Int32).toNatClampNeg)) 3 (am_u (σ 3) 4 ((jat 201 (σ 22) (a1 + 1)) - (jat 201 (σ 22) a1)))) (jat 201 (σ 22) a1) 0 h
    · rw [if_neg c2] at h
      refine hV.run 5 [0, 0] (ws' := wX4 12 σ τ) (pc' := 11) (ls' := [(0, .ref 0), (1, .int a1)]) (st' := []) (ps := [¬ a1 < 0, ¬ a1 < 200]) rfl ⟨c1, c2, trivial⟩ ?_
      cases h
      exact hV.rv rfl rfl rfl hP

def X4_store_B53 (n : Nat) (kont53 : am_M → Int32 → Int32 → Int32 → Option am_M) (σ : am_M) (l1 : Int32) (l3 : Int32) (l4 : Int32) : Option am_M := if (σ 3 4) ≤ l4 then (some (sC σ 22 (jput 201 (σ 22) (l1 + 1) (l3 + (σ 3 4))))) else (kont53 (sC σ 21 (jput 59700 (jput 59700 (jput 59700 (σ 21) ((l3 + l4) * 3) (jat 320 (σ 4) l4)) (((l3 + l4) * 3) + 1) (jat 320 (σ 5) l4)) (((l3 + l4) * 3) + 2) (jat 320 (σ 6) l4))) l1 l3 (l4 + 1))
def X4_store_L53 (n : Nat) : Nat → am_M → Int32 → Int32 → Int32 → Option am_M
 | 0 => fun _ _ _ _ => none
 | k + 1 => fun σ l1 l3 l4 => X4_store_B53 n (X4_store_L53 n k) σ l1 l3 l4
set_option maxRecDepth 100000 in
set_option maxHeartbeats 4000000 in
theorem p_X4_store_B53 {l : Launch} {Post : Option Value → am_W → Prop} {V : am_VT} (hV : am_B l RX4 false 2 (am_cdT' tX4_store) (am_rfL rfX4) none Post 28 V) (n : Nat) (τ : Nat → Int64) (res : am_M) (hP : Post none (wX4 12 res τ)) (kont53 : am_M → Int32 → Int32 → Int32 → Option am_M) (hk53 : ∀ (σ : am_M) (l1 : Int32) (l3 : Int32) (l4 : Int32), kont53 σ l1 l3 l4 = some res → V (wX4 12 σ τ) 53 [(0, .ref 0), (1, .int l1), (2, .ref 3), (3, .int l3), (4, .int l4)] []) (σ : am_M) (l1 : Int32) (l3 : Int32) (l4 : Int32) (h : X4_store_B53 n kont53 σ l1 l3 l4 = some res) : V (wX4 12 σ τ) 53 [(0, .ref 0), (1, .int l1), (2, .ref 3), (3, .int l3), (4, .int l4)] [] := by
  unfold X4_store_B53 at h
  by_cases c1 : (σ 3 4) ≤ l4
  · rw [if_pos c1] at h
    refine hV.run 13 [1] (ws' := wX4 12 σ τ) (pc' := 147) (ls' := [(0, .ref 0), (1, .int l1), (2, .ref 3), (3, .int l3), (4, .int l4)]) (st' := [.int (l3 + (σ 3 4)), .int (l1 + 1), .ref 22]) (ps := [(σ 3 4) ≤ l4]) rfl ⟨c1, trivial⟩ ?_
    refine hV.cSv (as := [.ref 0, .int (l1 + 1), .int (l3 + (σ 3 4))]) (js := [22]) (rest := []) (st := [.int (l3 + (σ 3 4)), .int (l1 + 1), .ref 22]) (ws2 := wX4 12 (sC σ 22 (jput 201 (σ 22) (l1 + 1) (l3 + (σ 3 4)))) τ) (pc2 := 150) kX4_68 (c_put l 1 201 (by decide) (σ 22) (l1 + 1) (l3 + (σ 3 4))) rfl rfl rfl rfl rfl rfl rfl rfl rfl rfl ?_
    cases h
    exact hV.rv rfl rfl rfl hP
  · rw [if_neg c1] at h
    refine hV.run 16 [0] (ws' := wX4 12 σ τ) (pc' := 82) (ls' := [(5, .int ((l3 + l4) * 3)), (0, .ref 0), (1, .int l1), (2, .ref 3), (3, .int l3), (4, .int l4)]) (st' := [.int l4, .ref 4, .int ((l3 + l4) * 3), .ref 21]) (ps := [¬ (σ 3 4) ≤ l4]) rfl ⟨c1, trivial⟩ ?_
    refine hV.cSi (as := [.ref 0, .int l4]) (js := [4]) (rest := [.int ((l3 + l4) * 3), .ref 21]) (st := [.int l4, .ref 4, .int ((l3 + l4) * 3), .ref 21]) (ws2 := wX4 12 σ τ) (pc2 := 85) kX4_123 (c_at l 1 320 (by decide) (σ 4) l4) rfl rfl rfl rfl rfl rfl rfl rfl rfl rfl ?_
    refine hV.cSv (as := [.ref 0, .int ((l3 + l4) * 3), .int (jat 320 (σ 4) l4)]) (js := [21]) (rest := []) (st := [.int (jat 320 (σ 4) l4), .int ((l3 + l4) * 3), .ref 21]) (ws2 := wX4 12 (sC σ 21 (jput 59700 (σ 21) ((l3 + l4) * 3) (jat 320 (σ 4) l4))) τ) (pc2 := 88) kX4_68 (c_put l 1 59700 (by decide) (σ 21) ((l3 + l4) * 3) (jat 320 (σ 4) l4)) rfl rfl rfl rfl rfl rfl rfl rfl rfl rfl ?_
    refine hV.run 8 [] (ws' := wX4 12 (sC σ 21 (jput 59700 (σ 21) ((l3 + l4) * 3) (jat 320 (σ 4) l4))) τ) (pc' := 102) (ls' := [(5, .int ((l3 + l4) * 3)), (0, .ref 0), (1, .int l1), (2, .ref 3), (3, .int l3), (4, .int l4)]) (st' := [.int l4, .ref 5, .int (((l3 + l4) * 3) + 1), .ref 21]) (ps := []) rfl trivial ?_
    refine hV.cSi (as := [.ref 0, .int l4]) (js := [5]) (rest := [.int (((l3 + l4) * 3) + 1), .ref 21]) (st := [.int l4, .ref 5, .int (((l3 + l4) * 3) + 1), .ref 21]) (ws2 := wX4 12 (sC σ 21 (jput 59700 (σ 21) ((l3 + l4) * 3) (jat 320 (σ 4) l4))) τ) (pc2 := 105) kX4_123 (c_at l 1 320 (by decide) (σ 5) l4) rfl rfl rfl rfl rfl rfl rfl rfl rfl rfl ?_
    refine hV.cSv (as := [.ref 0, .int (((l3 + l4) * 3) + 1), .int (jat 320 (σ 5) l4)]) (js := [21]) (rest := []) (st := [.int (jat 320 (σ 5) l4), .int (((l3 + l4) * 3) + 1), .ref 21]) (ws2 := wX4 12 (sC σ 21 (jput 59700 (jput 59700 (σ 21) ((l3 + l4) * 3) (jat 320 (σ 4) l4)) (((l3 + l4) * 3) + 1) (jat 320 (σ 5) l4))) τ) (pc2 := 108) kX4_68 (c_put l 1 59700 (by decide) (jput 59700 (σ 21) ((l3 + l4) * 3) (jat 320 (σ 4) l4)) (((l3 + l4) * 3) + 1) (jat 320 (σ 5) l4)) rfl rfl rfl rfl rfl rfl rfl rfl rfl rfl ?_
    refine hV.run 8 [] (ws' := wX4 12 (sC σ 21 (jput 59700 (jput 59700 (σ 21) ((l3 + l4) * 3) (jat 320 (σ 4) l4)) (((l3 + l4) * 3) + 1) (jat 320 (σ 5) l4))) τ) (pc' := 122) (ls' := [(5, .int ((l3 + l4) * 3)), (0, .ref 0), (1, .int l1), (2, .ref 3), (3, .int l3), (4, .int l4)]) (st' := [.int l4, .ref 6, .int (((l3 + l4) * 3) + 2), .ref 21]) (ps := []) rfl trivial ?_
    refine hV.cSi (as := [.ref 0, .int l4]) (js := [6]) (rest := [.int (((l3 + l4) * 3) + 2), .ref 21]) (st := [.int l4, .ref 6, .int (((l3 + l4) * 3) + 2), .ref 21]) (ws2 := wX4 12 (sC σ 21 (jput 59700 (jput 59700 (σ 21) ((l3 + l4) * 3) (jat 320 (σ 4) l4)) (((l3 + l4) * 3) + 1) (jat 320 (σ 5) l4))) τ) (pc2 := 125) kX4_123 (c_at l 1 320 (by decide) (σ 6) l4) rfl rfl rfl rfl rfl rfl rfl rfl rfl rfl ?_
    refine hV.cSv (as := [.ref 0, .int (((l3 + l4) * 3) + 2), .int (jat 320 (σ 6) l4)]) (js := [21]) (rest := []) (st := [.int (jat 320 (σ 6) l4), .int (((l3 + l4) * 3) + 2), .ref 21]) (ws2 := wX4 12 (sC σ 21 (jput 59700 (jput 59700 (jput 59700 (σ 21) ((l3 + l4) * 3) (jat 320 (σ 4) l4)) (((l3 + l4) * 3) + 1) (jat 320 (σ 5) l4)) (((l3 + l4) * 3) + 2) (jat 320 (σ 6) l4))) τ) (pc2 := 128) kX4_68 (c_put l 1 59700 (by decide) (jput 59700 (jput 59700 (σ 21) ((l3 + l4) * 3) (jat 320 (σ 4) l4)) (((l3 + l4) * 3) + 1) (jat 320 (σ 5) l4)) (((l3 + l4) * 3) + 2) (jat 320 (σ 6) l4)) rfl rfl rfl rfl rfl rfl rfl rfl rfl rfl ?_
    refine hV.run 2 [] (ws' := wX4 12 (sC σ 21 (jput 59700 (jput 59700 (jput 59700 (σ 21) ((l3 + l4) * 3) (jat 320 (σ 4) l4)) (((l3 + l4) * 3) + 1) (jat 320 (σ 5) l4)) (((l3 + l4) * 3) + 2) (jat 320 (σ 6) l4))) τ) (pc' := 53) (ls' := [(4, .int (l4 + 1)), (5, .int ((l3 + l4) * 3)), (0, .ref 0), (1, .int l1), (2, .ref 3), (3, .int l3)]) (st' := []) (ps := []) rfl trivial ?_
    refine hV.pick [2, 3, 4, 5, 0] (ls' := [(0, .ref 0), (1, .int l1), (2, .ref 3), (3, .int l3), (4, .int (l4 + 1))]) rfl ?_
    exact hk53 (sC σ 21 (jput 59700 (jput 59700 (jput 59700 (σ 21) ((l3 + l4) * 3) (jat 320 (σ 4) l4)) (((l3 + l4) * 3) + 1) (jat 320 (σ 5) l4)) (((l3 + l4) * 3) + 2) (jat 320 (σ 6) l4))) l1 l3 (l4 + 1) h
theorem p_X4_store_L53 {l : Launch} {Post : Option Value → am_W → Prop} {V : am_VT} (hV : am_B l RX4 false 2 (am_cdT' tX4_store) (am_rfL rfX4) none Post 28 V) (n : Nat) (τ : Nat → Int64) (res : am_M) (hP : Post none (wX4 12 res τ)) : ∀ (k : Nat) (σ : am_M) (l1 : Int32) (l3 : Int32) (l4 : Int32) (h : X4_store_L53 n k σ l1 l3 l4 = some res), V (wX4 12 σ τ) 53 [(0, .ref 0), (1, .int l1), (2, .ref 3), (3, .int l3), (4, .int l4)] [] := by
  intro k
  induction k with
  | zero => intro σ l1 l3 l4 h; cases h
  | succ k ih => intro σ l1 l3 l4 h; exact p_X4_store_B53 hV n τ res hP _ ih σ l1 l3 l4 h
def X4_store (n : Nat) (σ : am_M) (a1 : Int32) : Option am_M := if a1 < 0 then (some σ) else (if a1 < 200 then (if (0 : Int32) < 0 ∨ (a1 * 104) < 0 ∨ (104 : Int32) < 0 ∨ 104 < (0 : Int32).toNatClampNeg + (104 : Int32).toNatClampNeg ∨ 20800 < (a1 * 104).toNatClampNeg + (104 : Int32).toNatClampNeg then none else (X4_store_L53 n n (sC σ 20 (va_cpy (σ 2) (σ 20) (0 : Int32).toNatClampNeg (a1 * 104).toNatClampNeg (104 : Int32).toNatClampNeg)) a1 (jat 201 (σ 22) a1) 0)) else (some σ))
set_option maxRecDepth 100000 in
set_option maxHeartbeats 4000000 in
theorem c_X4_store (l : Launch) (n : Nat) (σ : am_M) (τ : Nat → Int64) (a1 : Int32) (res : am_M) (h : X4_store n σ a1 = some res) : am_Con l yX4_store cX4_store 6 none 2 [.ref 0, .int a1] (wX4 12 σ τ) (fun (r : Option Value) (w : am_W) => r = none ∧ w = (wX4 12 res τ)) := by
  refine am_metn (n0 := 28) (own := RX4) (cd := am_cdT' tX4_store) (rf := am_rfL rfX4) (ini := false) rfl (by decide +kernel) rfl (by decide) dX4_store rfX4_ok (Nat.le_of_ble_eq_true rfl) ?_
  intro V hV
  have hP : (fun (r : Option Value) (w : am_W) => r = none ∧ w = (wX4 12 res τ)) none (wX4 12 res τ) := ⟨rfl, rfl⟩
  show V (wX4 12 σ τ) 0 [(0, .ref 0), (1, .int a1)] []
  unfold X4_store at h
  by_cases c1 : a1 < 0
  · rw [if_pos c1] at h
    refine hV.run 2 [1] (ws' := wX4 12 σ τ) (pc' := 11) (ls' := [(0, .ref 0), (1, .int a1)]) (st' := []) (ps := [a1 < 0]) rfl ⟨c1, trivial⟩ ?_
    cases h
    exact hV.rv rfl rfl rfl hP
  · rw [if_neg c1] at h
    by_cases c2 : a1 < 200
    · rw [if_pos c2] at h
      refine hV.run 15 [0, 1] (ws' := wX4 12 σ τ) (pc' := 30) (ls' := [(0, .ref 0), (1, .int a1)]) (st' := [.int 104, .int (a1 * 104), .ref 20, .int 0, .ref 2]) (ps := [¬ a1 < 0, a1 < 200]) rfl ⟨c1, c2, trivial⟩ ?_
      by_cases g3 : (0 : Int32) < 0 ∨ (a1 * 104) < 0 ∨ (104 : Int32) < 0 ∨ 104 < (0 : Int32).toNatClampNeg + (104 : Int32).toNatClampNeg ∨ 20800 < (a1 * 104).toNatClampNeg + (104 : Int32).toNatClampNeg
      · rw [if_pos g3] at h; cases h
      rw [if_neg g3] at h
      refine hV.cp 672 2 20 (g3) (rest := []) (ws2 := wX4 12 (sC σ 20 (va_cpy (σ 2) (σ 20) (0 : Int32).toNatClampNeg (a1 * 104).toNatClampNeg (104 : Int32).toNatClampNeg)) τ) (pc2 := 33) rfl (by decide +kernel) rfl rfl rfl rfl rfl rfl ?_
      refine hV.run 7 [] (ws' := wX4 12 (sC σ 20 (va_cpy (σ 2) (σ 20) (0 : Int32).toNatClampNeg (a1 * 104).toNatClampNeg (104 : Int32).toNatClampNeg)) τ) (pc' := 46) (ls' := [(2, .ref 3), (0, .ref 0), (1, .int a1)]) (st' := [.int a1, .ref 22]) (ps := []) rfl trivial ?_
      refine hV.cSi (as := [.ref 0, .int a1]) (js := [22]) (rest := []) (st := [.int a1, .ref 22]) (ws2 := wX4 12 (sC σ 20 (va_cpy (σ 2) (σ 20) (0 : Int32).toNatClampNeg (a1 * 104).toNatClampNeg (104 : Int32).toNatClampNeg)) τ) (pc2 := 49) kX4_123 (c_at l 1 201 (by decide) (σ 22) a1) rfl rfl rfl rfl rfl rfl rfl rfl rfl rfl ?_
      refine hV.run 3 [] (ws' := wX4 12 (sC σ 20 (va_cpy (σ 2) (σ 20) (0 : Int32).toNatClampNeg (a1 * 104).toNatClampNeg (104 : Int32).toNatClampNeg)) τ) (pc' := 53) (ls' := [(4, .int 0), (3, .int (jat 201 (σ 22) a1)), (2, .ref 3), (0, .ref 0), (1, .int a1)]) (st' := []) (ps := []) rfl trivial ?_
      refine hV.pick [3, 4, 2, 1, 0] (ls' := [(0, .ref 0), (1, .int a1), (2, .ref 3), (3, .int (jat 201 (σ 22) a1)), (4, .int 0)]) rfl ?_
      exact p_X4_store_L53 hV n τ res hP n (sC σ 20 (va_cpy (σ 2) (σ 20) (0 : Int32).toNatClampNeg (a1 * 104).toNatClampNeg (104 : Int32).toNatClampNeg)) a1 (jat 201 (σ 22) a1) 0 h
    · rw [if_neg c2] at h
      refine hV.run 5 [0, 0] (ws' := wX4 12 σ τ) (pc' := 11) (ls' := [(0, .ref 0), (1, .int a1)]) (st' := []) (ps := [¬ a1 < 0, ¬ a1 < 200]) rfl ⟨c1, c2, trivial⟩ ?_
      cases h
      exact hV.rv rfl rfl rfl hP

def X4_hashOfScene_B49 (n : Nat) (σ : am_M) (kont49 : Int32 → Int32 → Option Int32) (l1 : Int32) (l2 : Int32) : Option Int32 := if (σ 3 4) ≤ l2 then (some (l1 ^^^ (am_ushr l1 15))) else (kont49 ((((((l1 * 31) + (jat 320 (σ 4) l2)) * 31) + (jat 320 (σ 5) l2)) * 31) + (jat 320 (σ 6) l2)) (l2 + 1))
def X4_hashOfScene_L49 (n : Nat) (σ : am_M) : Nat → Int32 → Int32 → Option Int32
 | 0 => fun _ _ => none
 | k + 1 => fun l1 l2 => X4_hashOfScene_B49 n σ (X4_hashOfScene_L49 n σ k) l1 l2
set_option maxRecDepth 100000 in
set_option maxHeartbeats 4000000 in
theorem p_X4_hashOfScene_B49 {l : Launch} {Post : Option Value → am_W → Prop} {V : am_VT} (hV : am_B l RX4 false 2 (am_cdT' tX4_hashOfScene) (am_rfL rfX4) (some .int) Post 28 V) (n : Nat) (σ : am_M) (τ : Nat → Int64) (res : Int32) (hP : Post (some (.int res)) (wX4 12 σ τ)) (kont49 : Int32 → Int32 → Option Int32) (hk49 : ∀ (l1 : Int32) (l2 : Int32), kont49 l1 l2 = some res → V (wX4 12 σ τ) 49 [(0, .ref 0), (1, .int l1), (2, .int l2)] []) (l1 : Int32) (l2 : Int32) (h : X4_hashOfScene_B49 n σ kont49 l1 l2 = some res) : V (wX4 12 σ τ) 49 [(0, .ref 0), (1, .int l1), (2, .int l2)] [] := by
  unfold X4_hashOfScene_B49 at h
  by_cases c1 : (σ 3 4) ≤ l2
  · rw [if_pos c1] at h
    refine hV.run 11 [1] (ws' := wX4 12 σ τ) (pc' := 135) (ls' := [(0, .ref 0), (1, .int l1), (2, .int l2)]) (st' := [.int (l1 ^^^ (am_ushr l1 15))]) (ps := [(σ 3 4) ≤ l2]) rfl ⟨c1, trivial⟩ ?_
    cases h
    exact hV.ri rfl rfl rfl hP
  · rw [if_neg c1] at h
    refine hV.run 14 [0] (ws' := wX4 12 σ τ) (pc' := 78) (ls' := [(0, .ref 0), (1, .int l1), (2, .int l2)]) (st' := [.int l2, .ref 4, .int (l1 * 31)]) (ps := [¬ (σ 3 4) ≤ l2]) rfl ⟨c1, trivial⟩ ?_
    refine hV.cSi (as := [.ref 0, .int l2]) (js := [4]) (rest := [.int (l1 * 31)]) (st := [.int l2, .ref 4, .int (l1 * 31)]) (ws2 := wX4 12 σ τ) (pc2 := 81) kX4_123 (c_at l 1 320 (by decide) (σ 4) l2) rfl rfl rfl rfl rfl rfl rfl rfl rfl rfl ?_
    refine hV.run 10 [] (ws' := wX4 12 σ τ) (pc' := 98) (ls' := [(1, .int ((l1 * 31) + (jat 320 (σ 4) l2))), (0, .ref 0), (2, .int l2)]) (st' := [.int l2, .ref 5, .int (((l1 * 31) + (jat 320 (σ 4) l2)) * 31)]) (ps := []) rfl trivial ?_
    refine hV.cSi (as := [.ref 0, .int l2]) (js := [5]) (rest := [.int (((l1 * 31) + (jat 320 (σ 4) l2)) * 31)]) (st := [.int l2, .ref 5, .int (((l1 * 31) + (jat 320 (σ 4) l2)) * 31)]) (ws2 := wX4 12 σ τ) (pc2 := 101) kX4_123 (c_at l 1 320 (by decide) (σ 5) l2) rfl rfl rfl rfl rfl rfl rfl rfl rfl rfl ?_
    refine hV.run 10 [] (ws' := wX4 12 σ τ) (pc' := 118) (ls' := [(1, .int ((((l1 * 31) + (jat 320 (σ 4) l2)) * 31) + (jat 320 (σ 5) l2))), (0, .ref 0), (2, .int l2)]) (st' := [.int l2, .ref 6, .int (((((l1 * 31) + (jat 320 (σ 4) l2)) * 31) + (jat 320 (σ 5) l2)) * 31)]) (ps := []) rfl trivial ?_
    refine hV.cSi (as := [.ref 0, .int l2]) (js := [6]) (rest := [.int (((((l1 * 31) + (jat 320 (σ 4) l2)) * 31) + (jat 320 (σ 5) l2)) * 31)]) (st := [.int l2, .ref 6, .int (((((l1 * 31) + (jat 320 (σ 4) l2)) * 31) + (jat 320 (σ 5) l2)) * 31)]) (ws2 := wX4 12 σ τ) (pc2 := 121) kX4_123 (c_at l 1 320 (by decide) (σ 6) l2) rfl rfl rfl rfl rfl rfl rfl rfl rfl rfl ?_
    refine hV.run 4 [] (ws' := wX4 12 σ τ) (pc' := 49) (ls' := [(2, .int (l2 + 1)), (1, .int ((((((l1 * 31) + (jat 320 (σ 4) l2)) * 31) + (jat 320 (σ 5) l2)) * 31) + (jat 320 (σ 6) l2))), (0, .ref 0)]) (st' := []) (ps := []) rfl trivial ?_
    refine hV.pick [2, 1, 0] (ls' := [(0, .ref 0), (1, .int ((((((l1 * 31) + (jat 320 (σ 4) l2)) * 31) + (jat 320 (σ 5) l2)) * 31) + (jat 320 (σ 6) l2))), (2, .int (l2 + 1))]) rfl ?_
    exact hk49 ((((((l1 * 31) + (jat 320 (σ 4) l2)) * 31) + (jat 320 (σ 5) l2)) * 31) + (jat 320 (σ 6) l2)) (l2 + 1) h
theorem p_X4_hashOfScene_L49 {l : Launch} {Post : Option Value → am_W → Prop} {V : am_VT} (hV : am_B l RX4 false 2 (am_cdT' tX4_hashOfScene) (am_rfL rfX4) (some .int) Post 28 V) (n : Nat) (σ : am_M) (τ : Nat → Int64) (res : Int32) (hP : Post (some (.int res)) (wX4 12 σ τ)) : ∀ (k : Nat) (l1 : Int32) (l2 : Int32) (h : X4_hashOfScene_L49 n σ k l1 l2 = some res), V (wX4 12 σ τ) 49 [(0, .ref 0), (1, .int l1), (2, .int l2)] [] := by
  intro k
  induction k with
  | zero => intro l1 l2 h; cases h
  | succ k ih => intro l1 l2 h; exact p_X4_hashOfScene_B49 hV n σ τ res hP _ ih l1 l2 h
def X4_hashOfScene_B13 (n : Nat) (σ : am_M) (kont13 : Int32 → Int32 → Option Int32) (l1 : Int32) (l2 : Int32) : Option Int32 := if ((σ 0 13) * 13) ≤ l2 then (X4_hashOfScene_L49 n σ n l1 0) else (kont13 ((l1 * 31) + (jat 104 (σ 2) l2)) (l2 + 1))
def X4_hashOfScene_L13 (n : Nat) (σ : am_M) : Nat → Int32 → Int32 → Option Int32
 | 0 => fun _ _ => none
 | k + 1 => fun l1 l2 => X4_hashOfScene_B13 n σ (X4_hashOfScene_L13 n σ k) l1 l2
set_option maxRecDepth 100000 in
set_option maxHeartbeats 4000000 in
theorem p_X4_hashOfScene_B13 {l : Launch} {Post : Option Value → am_W → Prop} {V : am_VT} (hV : am_B l RX4 false 2 (am_cdT' tX4_hashOfScene) (am_rfL rfX4) (some .int) Post 28 V) (n : Nat) (σ : am_M) (τ : Nat → Int64) (res : Int32) (hP : Post (some (.int res)) (wX4 12 σ τ)) (kont13 : Int32 → Int32 → Option Int32) (hk13 : ∀ (l1 : Int32) (l2 : Int32), kont13 l1 l2 = some res → V (wX4 12 σ τ) 13 [(0, .ref 0), (1, .int l1), (2, .int l2)] []) (l1 : Int32) (l2 : Int32) (h : X4_hashOfScene_B13 n σ kont13 l1 l2 = some res) : V (wX4 12 σ τ) 13 [(0, .ref 0), (1, .int l1), (2, .int l2)] [] := by
  unfold X4_hashOfScene_B13 at h
  by_cases c1 : ((σ 0 13) * 13) ≤ l2
  · rw [if_pos c1] at h
    refine hV.run 8 [1] (ws' := wX4 12 σ τ) (pc' := 49) (ls' := [(2, .int 0), (0, .ref 0), (1, .int l1)]) (st' := []) (ps := [((σ 0 13) * 13) ≤ l2]) rfl ⟨c1, trivial⟩ ?_
    refine hV.pick [1, 2, 0] (ls' := [(0, .ref 0), (1, .int l1), (2, .int 0)]) rfl ?_
    exact p_X4_hashOfScene_L49 hV n σ τ res hP n l1 0 h
  · rw [if_neg c1] at h
    refine hV.run 13 [0] (ws' := wX4 12 σ τ) (pc' := 36) (ls' := [(0, .ref 0), (1, .int l1), (2, .int l2)]) (st' := [.int l2, .ref 2, .int (l1 * 31)]) (ps := [¬ ((σ 0 13) * 13) ≤ l2]) rfl ⟨c1, trivial⟩ ?_
    refine hV.cSi (as := [.ref 0, .int l2]) (js := [2]) (rest := [.int (l1 * 31)]) (st := [.int l2, .ref 2, .int (l1 * 31)]) (ws2 := wX4 12 σ τ) (pc2 := 39) kX4_123 (c_at l 1 104 (by decide) (σ 2) l2) rfl rfl rfl rfl rfl rfl rfl rfl rfl rfl ?_
    refine hV.run 4 [] (ws' := wX4 12 σ τ) (pc' := 13) (ls' := [(2, .int (l2 + 1)), (1, .int ((l1 * 31) + (jat 104 (σ 2) l2))), (0, .ref 0)]) (st' := []) (ps := []) rfl trivial ?_
    refine hV.pick [2, 1, 0] (ls' := [(0, .ref 0), (1, .int ((l1 * 31) + (jat 104 (σ 2) l2))), (2, .int (l2 + 1))]) rfl ?_
    exact hk13 ((l1 * 31) + (jat 104 (σ 2) l2)) (l2 + 1) h
theorem p_X4_hashOfScene_L13 {l : Launch} {Post : Option Value → am_W → Prop} {V : am_VT} (hV : am_B l RX4 false 2 (am_cdT' tX4_hashOfScene) (am_rfL rfX4) (some .int) Post 28 V) (n : Nat) (σ : am_M) (τ : Nat → Int64) (res : Int32) (hP : Post (some (.int res)) (wX4 12 σ τ)) : ∀ (k : Nat) (l1 : Int32) (l2 : Int32) (h : X4_hashOfScene_L13 n σ k l1 l2 = some res), V (wX4 12 σ τ) 13 [(0, .ref 0), (1, .int l1), (2, .int l2)] [] := by
  intro k
  induction k with
  | zero => intro l1 l2 h; cases h
  | succ k ih => intro l1 l2 h; exact p_X4_hashOfScene_B13 hV n σ τ res hP _ ih l1 l2 h
def X4_hashOfScene (n : Nat) (σ : am_M) : Option Int32 := X4_hashOfScene_L13 n σ n (σ 3 4) 0
set_option maxRecDepth 100000 in
set_option maxHeartbeats 4000000 in
theorem c_X4_hashOfScene (l : Launch) (n : Nat) (σ : am_M) (τ : Nat → Int64) (res : Int32) (h : X4_hashOfScene n σ = some res) : am_Con l yX4_hashOfScene cX4_hashOfScene 3 (some .int) 2 [.ref 0] (wX4 12 σ τ) (fun (r : Option Value) (w : am_W) => r = (some (.int res)) ∧ w = (wX4 12 σ τ)) := by
  refine am_metn (n0 := 28) (own := RX4) (cd := am_cdT' tX4_hashOfScene) (rf := am_rfL rfX4) (ini := false) rfl (by decide +kernel) rfl (by decide) dX4_hashOfScene rfX4_ok (Nat.le_of_ble_eq_true rfl) ?_
  intro V hV
  have hP : (fun (r : Option Value) (w : am_W) => r = (some (.int res)) ∧ w = (wX4 12 σ τ)) (some (.int res)) (wX4 12 σ τ) := ⟨rfl, rfl⟩
  show V (wX4 12 σ τ) 0 [(0, .ref 0)] []
  unfold X4_hashOfScene at h
  refine hV.run 7 [] (ws' := wX4 12 σ τ) (pc' := 13) (ls' := [(2, .int 0), (1, .int (σ 3 4)), (0, .ref 0)]) (st' := []) (ps := []) rfl trivial ?_
  refine hV.pick [2, 1, 0] (ls' := [(0, .ref 0), (1, .int (σ 3 4)), (2, .int 0)]) rfl ?_
  exact p_X4_hashOfScene_L13 hV n σ τ res hP n (σ 3 4) 0 h

