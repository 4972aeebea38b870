def X7_text_J18 (n : Nat) (σ : am_M) (τ : Nat → Int64) (χ : Nat → Nat) : Option (Option Int32 × am_M × (Nat → Int64) × (Nat → Nat)) := some (none, σ, τ, χ)
set_option maxRecDepth 100000 in
set_option maxHeartbeats 4000000 in
theorem p_X7_text_J18 {l : Launch} {Post : Option Value → am_W → Prop} {PX : am_W → Prop} {V : am_VT} (hV : am_B l RX7 false 10 (am_cdT' tX7_text) (am_rfL rfX7) (some .int) Post 74 V) (hT : am_TX (am_cdT' tX7_text) 57 61 74 PX V) (n : Nat) (res : (Option Int32 × am_M × (Nat → Int64) × (Nat → Nat))) (hP : ∀ v, res.1 = some v → Post (some (.int v)) (wX7 (am_fp res.1) (am_fc res.1) res.2.2.2 res.2.1 res.2.2.1)) (hX : res.1 = none → PX (wX7 (am_fp res.1) (am_fc res.1) res.2.2.2 res.2.1 res.2.2.1)) (σ : am_M) (τ : Nat → Int64) (χ : Nat → Nat) (h : X7_text_J18 n σ τ χ = some res) : V (wX7 7 18 χ σ τ) 18 [] [] := by
  unfold X7_text_J18 at h
  cases h
  exact hT 59 _ _ _ _ _ _ _ _ _ rfl rfl rfl rfl rfl (List.mem_of_getElem? (i := 0) rfl) rfl (hX rfl)
def X7_text (n : Nat) (σ : am_M) (τ : Nat → Int64) (χ : Nat → Nat) (a1 : Int32) : Option (Option Int32 × am_M × (Nat → Int64) × (Nat → Nat)) := if a1 < 0 then (X7_text_J18 n σ τ χ) else (if a1 ≤ (σ 2 1) then (X1_read n (am_sub σ 1) a1).bind (fun q3 => if q3.1 = 0 then (X4_forget (am_sg (sC (am_put σ 1 17 q3.2) 2 (am_u ((am_put σ 1 17 q3.2) 2) 1 0)) 26)).bind (fun q5 => some (some q3.1, sC (am_pg (sC (am_put σ 1 17 q3.2) 2 (am_u ((am_put σ 1 17 q3.2) 2) 1 0)) 26 8 q5) 0 (am_u (am_u ((am_pg (sC (am_put σ 1 17 q3.2) 2 (am_u ((am_put σ 1 17 q3.2) 2) 1 0)) 26 8 q5) 0) 9 0) 10 0), τ, χ)) else (some (some q3.1, sC (am_put σ 1 17 q3.2) 2 (am_u ((am_put σ 1 17 q3.2) 2) 1 0), τ, χ))) else (X7_text_J18 n σ τ χ))
set_option maxRecDepth 100000 in
set_option maxHeartbeats 4000000 in
theorem c_X7_text (l : Launch) (hst : l.stackTraces = false) (n : Nat) (σ : am_M) (τ : Nat → Int64) (χ : Nat → Nat) (a1 : Int32) (res : (Option Int32 × am_M × (Nat → Int64) × (Nat → Nat))) (h : X7_text n σ τ χ a1 = some res) : am_CnX l yX7_text cX7_text 3 (some .int) 10 [.ref 0, .int a1] (wX7 7 18 χ σ τ) (fun (r : Option Value) (w : am_W) => ∃ v, res.1 = some v ∧ r = some (.int v) ∧ w = (wX7 (am_fp res.1) (am_fc res.1) res.2.2.2 res.2.1 res.2.2.1)) (fun (w : am_W) => res.1 = none ∧ w = (wX7 (am_fp res.1) (am_fc res.1) res.2.2.2 res.2.1 res.2.2.1)) "java/lang/IllegalArgumentException" := by
  refine am_metXn (n0 := 74) (cd := am_cdT' tX7_text) (rf := am_rfL rfX7) hst am_exI rfl rfl (by decide +kernel) rfl dX7_text rfX7_ok (Nat.le_of_ble_eq_true rfl) ?_
  intro V hV hT
  have hT : am_TX (am_cdT' tX7_text) 57 61 74 (fun (w : am_W) => res.1 = none ∧ w = (wX7 (am_fp res.1) (am_fc res.1) res.2.2.2 res.2.1 res.2.2.1)) V := hT
  have hP : ∀ v, res.1 = some v → (fun (r : Option Value) (w : am_W) => ∃ v, res.1 = some v ∧ r = some (.int v) ∧ w = (wX7 (am_fp res.1) (am_fc res.1) res.2.2.2 res.2.1 res.2.2.1)) (some (.int v)) (wX7 (am_fp res.1) (am_fc res.1) res.2.2.2 res.2.1 res.2.2.1) := fun v e => ⟨v, e, rfl, rfl⟩
  have hX : res.1 = none → (fun (w : am_W) => res.1 = none ∧ w = (wX7 (am_fp res.1) (am_fc res.1) res.2.2.2 res.2.1 res.2.2.1)) (wX7 (am_fp res.1) (am_fc res.1) res.2.2.2 res.2.1 res.2.2.1) := fun e => ⟨e, rfl⟩
  show V (wX7 7 18 χ σ τ) 0 [(0, .ref 0), (1, .int a1)] []
  unfold X7_text at h
  by_cases c1 : a1 < 0
  · rw [if_pos c1] at h
    refine hV.run 2 [1] (ws' := wX7 7 18 χ σ τ) (pc' := 18) (ls' := [(0, .ref 0), (1, .int a1)]) (st' := []) (ps := [a1 < 0]) rfl ⟨c1, trivial⟩ ?_
    refine hV.pick [] (ls' := []) rfl ?_
    exact p_X7_text_J18 hV hT n res hP hX σ τ χ h
  · rw [if_neg c1] at h
    by_cases c2 : a1 ≤ (σ 2 1)
    · rw [if_pos c2] at h
      refine hV.run 11 [0, 1] (ws' := wX7 7 18 χ σ τ) (pc' := 33) (ls' := [(0, .ref 0), (1, .int a1)]) (st' := [.int a1, .ref 1]) (ps := [¬ a1 < 0, a1 ≤ (σ 2 1)]) rfl ⟨c1, c2, trivial⟩ ?_
      obtain ⟨q3, hq3, h⟩ := am_bind h
      refine hV.cBi 1 17 [] (as := [.int a1]) (rest := []) (st := [.int a1, .ref 1]) (ws2 := wX7 7 18 χ (am_put σ 1 17 q3.2) τ) (pc2 := 36) kX7_64 (c_X1_read l n (am_sub σ 1) a1 q3 hq3) rfl rfl rfl rfl rfl rfl rfl rfl rfl rfl rfl rfl rfl rfl ?_
      by_cases c4 : q3.1 = 0
      · rw [if_pos c4] at h
        refine hV.run 13 [0] (ws' := wX7 7 18 χ (sC (am_put σ 1 17 q3.2) 2 (am_u ((am_put σ 1 17 q3.2) 2) 1 0)) τ) (pc' := 61) (ls' := [(2, .int q3.1), (0, .ref 0), (1, .int a1)]) (st' := [.ref 18, .ref 1, .ref 0]) (ps := [q3.1 = 0]) rfl ⟨c4, trivial⟩ ?_
        refine hV.cTr (st := [.ref 18, .ref 1, .ref 0]) (ws2 := wX7 18 18 χ (sC (am_put σ 1 17 q3.2) 2 (am_u ((am_put σ 1 17 q3.2) 2) 1 0)) τ) (pc2 := 64) kX7_68 (c_X1_trade l ((am_put σ 1 17 q3.2) 1 2) ((am_put σ 1 17 q3.2) 1 3) ((am_put σ 1 17 q3.2) 1 6) ((am_put σ 1 17 q3.2) 1 8) ((am_put σ 1 17 q3.2) 1 9) ((am_put σ 1 17 q3.2) 1 10)) rfl rfl rfl rfl rfl rfl rfl rfl ?_
        refine hV.run 3 [] (ws' := wX7 18 7 χ (sC (am_put σ 1 17 q3.2) 2 (am_u ((am_put σ 1 17 q3.2) 2) 1 0)) τ) (pc' := 71) (ls' := [(2, .int q3.1), (0, .ref 0), (1, .int a1)]) (st' := [.ref 26]) (ps := []) rfl trivial ?_
        obtain ⟨q5, hq5, h⟩ := am_bind h
        refine hV.cGv 26 8 (χ 27) (as := []) (rest := []) (st := [.ref 26]) (ws2 := wX7 18 7 χ (am_pg (sC (am_put σ 1 17 q3.2) 2 (am_u ((am_put σ 1 17 q3.2) 2) 1 0)) 26 8 q5) τ) (pc2 := 74) kX7_72 (c_X4_forget l (am_sg (sC (am_put σ 1 17 q3.2) 2 (am_u ((am_put σ 1 17 q3.2) 2) 1 0)) 26) (am_sg τ 26) 28 q5 hq5) rfl rfl rfl rfl rfl rfl (am_gnd0 _) rfl rfl rfl rfl rfl rfl rfl rfl ?_
        refine hV.run 7 [] (ws' := wX7 18 7 χ (sC (am_pg (sC (am_put σ 1 17 q3.2) 2 (am_u ((am_put σ 1 17 q3.2) 2) 1 0)) 26 8 q5) 0 (am_u (am_u ((am_pg (sC (am_put σ 1 17 q3.2) 2 (am_u ((am_put σ 1 17 q3.2) 2) 1 0)) 26 8 q5) 0) 9 0) 10 0)) τ) (pc' := 85) (ls' := [(2, .int q3.1), (0, .ref 0), (1, .int a1)]) (st' := [.int q3.1]) (ps := [(0 : Int32) = 0 ∨ (0 : Int32) = 1, (0 : Int32) = 0 ∨ (0 : Int32) = 1]) rfl ⟨(Or.inl rfl), (Or.inl rfl), trivial⟩ ?_
        cases h
        have e1 : am_fp (some q3.1) = 18 := if_pos c4
        have e2 : am_fc (some q3.1) = 7 := if_pos c4
        refine hV.ri rfl rfl rfl ⟨_, rfl, rfl, ?_⟩
        show wX7 18 7 χ (sC (am_pg (sC (am_put σ 1 17 q3.2) 2 (am_u ((am_put σ 1 17 q3.2) 2) 1 0)) 26 8 q5) 0 (am_u (am_u ((am_pg (sC (am_put σ 1 17 q3.2) 2 (am_u ((am_put σ 1 17 q3.2) 2) 1 0)) 26 8 q5) 0) 9 0) 10 0)) τ = wX7 (am_fp (some q3.1)) (am_fc (some q3.1)) _ _ _
        rw [e1, e2]
      · rw [if_neg c4] at h
        refine hV.run 9 [1] (ws' := wX7 7 18 χ (sC (am_put σ 1 17 q3.2) 2 (am_u ((am_put σ 1 17 q3.2) 2) 1 0)) τ) (pc' := 85) (ls' := [(2, .int q3.1), (0, .ref 0), (1, .int a1)]) (st' := [.int q3.1]) (ps := [¬ q3.1 = 0]) rfl ⟨c4, trivial⟩ ?_
        cases h
        have e1 : am_fp (some q3.1) = 7 := if_neg c4
        have e2 : am_fc (some q3.1) = 18 := if_neg c4
        refine hV.ri rfl rfl rfl ⟨_, rfl, rfl, ?_⟩
        show wX7 7 18 χ (sC (am_put σ 1 17 q3.2) 2 (am_u ((am_put σ 1 17 q3.2) 2) 1 0)) τ = wX7 (am_fp (some q3.1)) (am_fc (some q3.1)) _ _ _
        rw [e1, e2]
    · rw [if_neg c2] at h
      refine hV.run 8 [0, 0] (ws' := wX7 7 18 χ σ τ) (pc' := 18) (ls' := [(0, .ref 0), (1, .int a1)]) (st' := []) (ps := [¬ a1 < 0, ¬ a1 ≤ (σ 2 1)]) rfl ⟨c1, c2, trivial⟩ ?_
      refine hV.pick [] (ls' := []) rfl ?_
      exact p_X7_text_J18 hV hT n res hP hX σ τ χ h

def X7_count (σ : am_M) (a1 : Int32) : Option (Option Int32) := if a1 = 0 then (some (some (σ 18 7))) else (if a1 = 1 then (some (some (σ 18 8))) else (if a1 = 2 then (some (some (σ 0 2))) else (if a1 = 3 then (some (some (σ 0 3))) else (if a1 = 4 then (some (some (σ 0 4))) else (if a1 = 5 then (some (some (σ 0 5))) else (if a1 = 6 then (some (some (σ 2 1))) else (some none)))))))
set_option maxRecDepth 100000 in
set_option maxHeartbeats 4000000 in
theorem c_X7_count (l : Launch) (hst : l.stackTraces = false) (σ : am_M) (τ : Nat → Int64) (χ : Nat → Nat) (a1 : Int32) (res : (Option Int32)) (h : X7_count σ a1 = some res) : am_CnX l yX7_count cX7_count 2 (some .int) 6 [.ref 0, .int a1] (wX7 7 18 χ σ τ) (fun (r : Option Value) (w : am_W) => ∃ v, res = some v ∧ r = some (.int v) ∧ w = (wX7 7 18 χ σ τ)) (fun (w : am_W) => res = none ∧ w = (wX7 7 18 χ σ τ)) "java/util/NoSuchElementException" := by
  refine am_metXn (n0 := 74) (cd := am_cdT' tX7_count) (rf := am_rfL rfX7) hst am_exN rfl rfl (by decide +kernel) rfl dX7_count rfX7_ok (Nat.le_of_ble_eq_true rfl) ?_
  intro V hV hT
  have hT : am_TX (am_cdT' tX7_count) 104 108 74 (fun (w : am_W) => res = none ∧ w = (wX7 7 18 χ σ τ)) V := hT
  have hP : ∀ v, res = some v → (fun (r : Option Value) (w : am_W) => ∃ v, res = some v ∧ r = some (.int v) ∧ w = (wX7 7 18 χ σ τ)) (some (.int v)) (wX7 7 18 χ σ τ) := fun v e => ⟨v, e, rfl, rfl⟩
  have hX : res = none → (fun (w : am_W) => res = none ∧ w = (wX7 7 18 χ σ τ)) (wX7 7 18 χ σ τ) := fun e => ⟨e, rfl⟩
  show V (wX7 7 18 χ σ τ) 0 [(0, .ref 0), (1, .int a1)] []
  unfold X7_count at h
  by_cases c1 : a1 = 0
  · rw [if_pos c1] at h
    refine hV.run 5 [1] (ws' := wX7 7 18 χ σ τ) (pc' := 51) (ls' := [(0, .ref 0), (1, .int a1)]) (st' := [.int (σ 18 7)]) (ps := [a1.toInt = 0 + ((0 : Nat) : Int), 0 < 7, ¬ 6 < a1.toInt]) rfl ⟨(by rw [c1]; decide), (by decide), (by rw [c1]; decide), trivial⟩ ?_
    cases h
    exact hV.ri rfl rfl rfl (hP _ rfl)
  · rw [if_neg c1] at h
    by_cases c2 : a1 = 1
    · rw [if_pos c2] at h
      refine hV.run 5 [2] (ws' := wX7 7 18 χ σ τ) (pc' := 59) (ls' := [(0, .ref 0), (1, .int a1)]) (st' := [.int (σ 18 8)]) (ps := [a1.toInt = 0 + ((1 : Nat) : Int), 1 < 7, ¬ 6 < a1.toInt]) rfl ⟨(by rw [c2]; decide), (by decide), (by rw [c2]; decide), trivial⟩ ?_
      cases h
      exact hV.ri rfl rfl rfl (hP _ rfl)
    · rw [if_neg c2] at h
      by_cases c3 : a1 = 2
      · rw [if_pos c3] at h
        refine hV.run 4 [3] (ws' := wX7 7 18 χ σ τ) (pc' := 64) (ls' := [(0, .ref 0), (1, .int a1)]) (st' := [.int (σ 0 2)]) (ps := [a1.toInt = 0 + ((2 : Nat) : Int), 2 < 7, ¬ 6 < a1.toInt]) rfl ⟨(by rw [c3]; decide), (by decide), (by rw [c3]; decide), trivial⟩ ?_
        cases h
        exact hV.ri rfl rfl rfl (hP _ rfl)
      · rw [if_neg c3] at h
        by_cases c4 : a1 = 3
        · rw [if_pos c4] at h
          refine hV.run 4 [4] (ws' := wX7 7 18 χ σ τ) (pc' := 69) (ls' := [(0, .ref 0), (1, .int a1)]) (st' := [.int (σ 0 3)]) (ps := [a1.toInt = 0 + ((3 : Nat) : Int), 3 < 7, ¬ 6 < a1.toInt]) rfl ⟨(by rw [c4]; decide), (by decide), (by rw [c4]; decide), trivial⟩ ?_
          cases h
          exact hV.ri rfl rfl rfl (hP _ rfl)
        · rw [if_neg c4] at h
          by_cases c5 : a1 = 4
          · rw [if_pos c5] at h
            refine hV.run 4 [5] (ws' := wX7 7 18 χ σ τ) (pc' := 74) (ls' := [(0, .ref 0), (1, .int a1)]) (st' := [.int (σ 0 4)]) (ps := [a1.toInt = 0 + ((4 : Nat) : Int), 4 < 7, ¬ 6 < a1.toInt]) rfl ⟨(by rw [c5]; decide), (by decide), (by rw [c5]; decide), trivial⟩ ?_
            cases h
            exact hV.ri rfl rfl rfl (hP _ rfl)
          · rw [if_neg c5] at h
            by_cases c6 : a1 = 5
            · rw [if_pos c6] at h
              refine hV.run 4 [6] (ws' := wX7 7 18 χ σ τ) (pc' := 79) (ls' := [(0, .ref 0), (1, .int a1)]) (st' := [.int (σ 0 5)]) (ps := [a1.toInt = 0 + ((5 : Nat) : Int), 5 < 7, ¬ 6 < a1.toInt]) rfl ⟨(by rw [c6]; decide), (by decide), (by rw [c6]; decide), trivial⟩ ?_
              cases h
              exact hV.ri rfl rfl rfl (hP _ rfl)
            · rw [if_neg c6] at h
              by_cases c7 : a1 = 6
              · rw [if_pos c7] at h
                refine hV.run 6 [7] (ws' := wX7 7 18 χ σ τ) (pc' := 90) (ls' := [(0, .ref 0), (1, .int a1)]) (st' := [.int (σ 2 1)]) (ps := [a1.toInt = 0 + ((6 : Nat) : Int), 6 < 7, ¬ 6 < a1.toInt]) rfl ⟨(by rw [c7]; decide), (by decide), (by rw [c7]; decide), trivial⟩ ?_
                cases h
                exact hV.ri rfl rfl rfl (hP _ rfl)
              · rw [if_neg c7] at h
                refine hV.run 2 [0] (ws' := wX7 7 18 χ σ τ) (pc' := 91) (ls' := [(0, .ref 0), (1, .int a1)]) (st' := []) (ps := [a1.toInt < 0 ∨ 6 < a1.toInt]) rfl ⟨(by have c1_ := am_ne c1 (by decide : (0 : Int32).toInt = 0); have c2_ := am_ne c2 (by decide : (1 : Int32).toInt = 1); have c3_ := am_ne c3 (by decide : (2 : Int32).toInt = 2); have c4_ := am_ne c4 (by decide : (3 : Int32).toInt = 3); have c5_ := am_ne c5 (by decide : (4 : Int32).toInt = 4); have c6_ := am_ne c6 (by decide : (5 : Int32).toInt = 5); have c7_ := am_ne c7 (by decide : (6 : Int32).toInt = 6); omega), trivial⟩ ?_
                cases h
                exact hT 106 _ _ _ _ _ _ _ _ _ rfl rfl rfl rfl rfl (List.mem_of_getElem? (i := 1) rfl) rfl (hX rfl)

def X7_step (σ : am_M) (a1 : Int32) : Option (Option Int32) := if (X3_kindOf (am_sub σ 18) a1) = (-1) then (some none) else (some (some (X3_kindOf (am_sub σ 18) a1)))
set_option maxRecDepth 100000 in
set_option maxHeartbeats 4000000 in
theorem c_X7_step (l : Launch) (hst : l.stackTraces = false) (σ : am_M) (τ : Nat → Int64) (χ : Nat → Nat) (a1 : Int32) (res : (Option Int32)) (h : X7_step σ a1 = some res) : am_CnX l yX7_step cX7_step 3 (some .int) 6 [.ref 0, .int a1] (wX7 7 18 χ σ τ) (fun (r : Option Value) (w : am_W) => ∃ v, res = some v ∧ r = some (.int v) ∧ w = (wX7 7 18 χ σ τ)) (fun (w : am_W) => res = none ∧ w = (wX7 7 18 χ σ τ)) "java/util/NoSuchElementException" := by
  refine am_metXn (n0 := 74) (cd := am_cdT' tX7_step) (rf := am_rfL rfX7) hst am_exN rfl rfl (by decide +kernel) rfl dX7_step rfX7_ok (Nat.le_of_ble_eq_true rfl) ?_
  intro V hV hT
  have hT : am_TX (am_cdT' tX7_step) 104 108 74 (fun (w : am_W) => res = none ∧ w = (wX7 7 18 χ σ τ)) V := hT
  have hP : ∀ v, res = some v → (fun (r : Option Value) (w : am_W) => ∃ v, res = some v ∧ r = some (.int v) ∧ w = (wX7 7 18 χ σ τ)) (some (.int v)) (wX7 7 18 χ σ τ) := fun v e => ⟨v, e, rfl, rfl⟩
  have hX : res = none → (fun (w : am_W) => res = none ∧ w = (wX7 7 18 χ σ τ)) (wX7 7 18 χ σ τ) := fun e => ⟨e, rfl⟩
  show V (wX7 7 18 χ σ τ) 0 [(0, .ref 0), (1, .int a1)] []
  unfold X7_step at h
  refine hV.run 3 [] (ws' := wX7 7 18 χ σ τ) (pc' := 5) (ls' := [(0, .ref 0), (1, .int a1)]) (st' := [.int a1, .ref 18]) (ps := []) rfl trivial ?_
  refine hV.cBi 18 8 [] (as := [.int a1]) (rest := []) (st := [.int a1, .ref 18]) (ws2 := wX7 7 18 χ σ τ) (pc2 := 8) kX7_109 (c_X3_kindOf l (am_sub σ 18) a1) rfl rfl rfl rfl rfl rfl rfl rfl rfl rfl rfl rfl rfl rfl ?_
  by_cases c1 : (X3_kindOf (am_sub σ 18) a1) = (-1)
  · rw [if_pos c1] at h
    refine hV.run 4 [0] (ws' := wX7 7 18 χ σ τ) (pc' := 14) (ls' := [(2, .int (X3_kindOf (am_sub σ 18) a1)), (0, .ref 0), (1, .int a1)]) (st' := []) (ps := [(X3_kindOf (am_sub σ 18) a1) = (-1)]) rfl ⟨c1, trivial⟩ ?_
    cases h
    exact hT 112 _ _ _ _ _ _ _ _ _ rfl rfl rfl rfl rfl (List.mem_of_getElem? (i := 2) rfl) rfl (hX rfl)
  · rw [if_neg c1] at h
    refine hV.run 5 [1] (ws' := wX7 7 18 χ σ τ) (pc' := 25) (ls' := [(2, .int (X3_kindOf (am_sub σ 18) a1)), (0, .ref 0), (1, .int a1)]) (st' := [.int (X3_kindOf (am_sub σ 18) a1)]) (ps := [¬ (X3_kindOf (am_sub σ 18) a1) = (-1)]) rfl ⟨c1, trivial⟩ ?_
    cases h
    exact hV.ri rfl rfl rfl (hP _ rfl)

def X7_endings_J10 (n : Nat) (σ : am_M) (τ : Nat → Int64) (χ : Nat → Nat) : Option (Option Int32 × am_M × (Nat → Int64) × (Nat → Nat)) := some (none, σ, τ, χ)
set_option maxRecDepth 100000 in
set_option maxHeartbeats 4000000 in
theorem p_X7_endings_J10 {l : Launch} {Post : Option Value → am_W → Prop} {PX : am_W → Prop} {V : am_VT} (hV : am_B l RX7 false 8 (am_cdT' tX7_endings) (am_rfL rfX7) (some .int) Post 74 V) (hT : am_TX (am_cdT' tX7_endings) 104 108 74 PX V) (n : Nat) (res : (Option Int32 × am_M × (Nat → Int64) × (Nat → Nat))) (hP : ∀ v, res.1 = some v → Post (some (.int v)) (wX7 7 18 res.2.2.2 res.2.1 res.2.2.1)) (hX : res.1 = none → PX (wX7 7 18 res.2.2.2 res.2.1 res.2.2.1)) (σ : am_M) (τ : Nat → Int64) (χ : Nat → Nat) (h : X7_endings_J10 n σ τ χ = some res) : V (wX7 7 18 χ σ τ) 10 [] [] := by
  unfold X7_endings_J10 at h
  cases h
  exact hT 124 _ _ _ _ _ _ _ _ _ rfl rfl rfl rfl rfl (List.mem_of_getElem? (i := 3) rfl) rfl (hX rfl)
def X7_endings (n : Nat) (σ : am_M) (τ : Nat → Int64) (χ : Nat → Nat) (a1 : Int32) : Option (Option Int32 × am_M × (Nat → Int64) × (Nat → Nat)) := if a1 < (-1) then (X7_endings_J10 n σ τ χ) else (if a1 ≤ 2 then (X4_explore n (am_sg σ 26) (am_sg τ 26) (σ 0 2) (σ 0 3) 0).bind (fun q3 => if ((am_pg σ 26 8 q3.1) 26 11) = 0 then (X4_endingsOf n (am_sg (am_pg σ 26 8 q3.1) 26) a1).bind (fun q5 => some (some q5, am_pg σ 26 8 q3.1, am_pg τ 26 8 q3.2.1, updN χ 27 ((am_gj 26 8 (χ 27)).getD q3.2.2 0))) else (some (some (-2), am_pg σ 26 8 q3.1, am_pg τ 26 8 q3.2.1, updN χ 27 ((am_gj 26 8 (χ 27)).getD q3.2.2 0)))) else (X7_endings_J10 n σ τ χ))
set_option maxRecDepth 100000 in
set_option maxHeartbeats 4000000 in
theorem c_X7_endings (l : Launch) (hst : l.stackTraces = false) (n : Nat) (σ : am_M) (τ : Nat → Int64) (χ : Nat → Nat) (a1 : Int32) (res : (Option Int32 × am_M × (Nat → Int64) × (Nat → Nat))) (h : X7_endings n σ τ χ a1 = some res) : am_CnX l yX7_endings cX7_endings 2 (some .int) 8 [.ref 0, .int a1] (wX7 7 18 χ σ τ) (fun (r : Option Value) (w : am_W) => ∃ v, res.1 = some v ∧ r = some (.int v) ∧ w = (wX7 7 18 res.2.2.2 res.2.1 res.2.2.1)) (fun (w : am_W) => res.1 = none ∧ w = (wX7 7 18 res.2.2.2 res.2.1 res.2.2.1)) "java/util/NoSuchElementException" := by
  refine am_metXn (n0 := 74) (cd := am_cdT' tX7_endings) (rf := am_rfL rfX7) hst am_exN rfl rfl (by decide +kernel) rfl dX7_endings rfX7_ok (Nat.le_of_ble_eq_true rfl) ?_
  intro V hV hT
  have hT : am_TX (am_cdT' tX7_endings) 104 108 74 (fun (w : am_W) => res.1 = none ∧ w = (wX7 7 18 res.2.2.2 res.2.1 res.2.2.1)) V := hT
  have hP : ∀ v, res.1 = some v → (fun (r : Option Value) (w : am_W) => ∃ v, res.1 = some v ∧ r = some (.int v) ∧ w = (wX7 7 18 res.2.2.2 res.2.1 res.2.2.1)) (some (.int v)) (wX7 7 18 res.2.2.2 res.2.1 res.2.2.1) := fun v e => ⟨v, e, rfl, rfl⟩
  have hX : res.1 = none → (fun (w : am_W) => res.1 = none ∧ w = (wX7 7 18 res.2.2.2 res.2.1 res.2.2.1)) (wX7 7 18 res.2.2.2 res.2.1 res.2.2.1) := fun e => ⟨e, rfl⟩
  show V (wX7 7 18 χ σ τ) 0 [(0, .ref 0), (1, .int a1)] []
  unfold X7_endings at h
  by_cases c1 : a1 < (-1)
  · rw [if_pos c1] at h
    refine hV.run 3 [1] (ws' := wX7 7 18 χ σ τ) (pc' := 10) (ls' := [(0, .ref 0), (1, .int a1)]) (st' := []) (ps := [a1 < (-1)]) rfl ⟨c1, trivial⟩ ?_
    refine hV.pick [] (ls' := []) rfl ?_
    exact p_X7_endings_J10 hV hT n res hP hX σ τ χ h
  · rw [if_neg c1] at h
    by_cases c2 : a1 ≤ 2
    · rw [if_pos c2] at h
      refine hV.run 15 [0, 1] (ws' := wX7 7 18 χ σ τ) (pc' := 37) (ls' := [(0, .ref 0), (1, .int a1)]) (st' := [.long 0, .int (σ 0 3), .int (σ 0 2), .ref 18, .ref 26]) (ps := [¬ a1 < (-1), a1 ≤ 2]) rfl ⟨c1, c2, trivial⟩ ?_
      obtain ⟨q3, hq3, h⟩ := am_bind h
      refine hV.cGv 26 8 (χ 27) (as := [.ref 12, .int (σ 0 2), .int (σ 0 3), .long 0]) (rest := []) (st := [.long 0, .int (σ 0 3), .int (σ 0 2), .ref 18, .ref 26]) (ws2 := wX7 7 18 (updN χ 27 ((am_gj 26 8 (χ 27)).getD q3.2.2 0)) (am_pg σ 26 8 q3.1) (am_pg τ 26 8 q3.2.1)) (pc2 := 40) kX7_114 (c_X4_explore l n (am_sg σ 26) (am_sg τ 26) (σ 0 2) (σ 0 3) 0 q3 hq3) rfl rfl rfl rfl rfl rfl (am_gnd0 _) rfl rfl rfl rfl rfl rfl rfl rfl ?_
      by_cases c4 : ((am_pg σ 26 8 q3.1) 26 11) = 0
      · rw [if_pos c4] at h
        refine hV.run 7 [1] (ws' := wX7 7 18 (updN χ 27 ((am_gj 26 8 (χ 27)).getD q3.2.2 0)) (am_pg σ 26 8 q3.1) (am_pg τ 26 8 q3.2.1)) (pc' := 60) (ls' := [(0, .ref 0), (1, .int a1)]) (st' := [.int a1, .ref 26]) (ps := [((am_pg σ 26 8 q3.1) 26 11) = 0]) rfl ⟨c4, trivial⟩ ?_
        obtain ⟨q5, hq5, h⟩ := am_bind h
        refine hV.cGi 26 8 ((updN χ 27 ((am_gj 26 8 (χ 27)).getD q3.2.2 0)) 27) (as := [.int a1]) (rest := []) (st := [.int a1, .ref 26]) (ws2 := wX7 7 18 (updN χ 27 ((am_gj 26 8 (χ 27)).getD q3.2.2 0)) (am_pg σ 26 8 q3.1) (am_pg τ 26 8 q3.2.1)) (pc2 := 63) kX7_126 (c_X4_endingsOf l n (am_sg (am_pg σ 26 8 q3.1) 26) (am_sg (am_pg τ 26 8 q3.2.1) 26) 28 a1 q5 hq5) rfl rfl rfl rfl rfl rfl (am_gnd0 _) rfl rfl rfl rfl rfl rfl rfl rfl ?_
        cases h
        exact hV.ri rfl rfl rfl (hP _ rfl)
      · rw [if_neg c4] at h
        refine hV.run 6 [0] (ws' := wX7 7 18 (updN χ 27 ((am_gj 26 8 (χ 27)).getD q3.2.2 0)) (am_pg σ 26 8 q3.1) (am_pg τ 26 8 q3.2.1)) (pc' := 63) (ls' := [(0, .ref 0), (1, .int a1)]) (st' := [.int (-2)]) (ps := [¬ ((am_pg σ 26 8 q3.1) 26 11) = 0]) rfl ⟨c4, trivial⟩ ?_
        cases h
        exact hV.ri rfl rfl rfl (hP _ rfl)
    · rw [if_neg c2] at h
      refine hV.run 6 [0, 0] (ws' := wX7 7 18 χ σ τ) (pc' := 10) (ls' := [(0, .ref 0), (1, .int a1)]) (st' := []) (ps := [¬ a1 < (-1), ¬ a1 ≤ 2]) rfl ⟨c1, c2, trivial⟩ ?_
      refine hV.pick [] (ls' := []) rfl ?_
      exact p_X7_endings_J10 hV hT n res hP hX σ τ χ h

def X7_ending_J19 (n : Nat) (σ : am_M) (τ : Nat → Int64) (χ : Nat → Nat) : Option (Option Int32 × am_M × (Nat → Int64) × (Nat → Nat)) := some (none, σ, τ, χ)
set_option maxRecDepth 100000 in
set_option maxHeartbeats 4000000 in
theorem p_X7_ending_J19 {l : Launch} {Post : Option Value → am_W → Prop} {PX : am_W → Prop} {V : am_VT} (hV : am_B l RX7 false 8 (am_cdT' tX7_ending) (am_rfL rfX7) (some .int) Post 74 V) (hT : am_TX (am_cdT' tX7_ending) 104 108 74 PX V) (n : Nat) (res : (Option Int32 × am_M × (Nat → Int64) × (Nat → Nat))) (hP : ∀ v, res.1 = some v → Post (some (.int v)) (wX7 7 18 res.2.2.2 res.2.1 res.2.2.1)) (hX : res.1 = none → PX (wX7 7 18 res.2.2.2 res.2.1 res.2.2.1)) (σ : am_M) (τ : Nat → Int64) (χ : Nat → Nat) (h : X7_ending_J19 n σ τ χ = some res) : V (wX7 7 18 χ σ τ) 19 [] [] := by
  unfold X7_ending_J19 at h
  cases h
  exact hT 129 _ _ _ _ _ _ _ _ _ rfl rfl rfl rfl rfl (List.mem_of_getElem? (i := 4) rfl) rfl (hX rfl)
def X7_ending_J74 (n : Nat) (σ : am_M) (τ : Nat → Int64) (χ : Nat → Nat) : Option (Option Int32 × am_M × (Nat → Int64) × (Nat → Nat)) := some (none, σ, τ, χ)
set_option maxRecDepth 100000 in
set_option maxHeartbeats 4000000 in
theorem p_X7_ending_J74 {l : Launch} {Post : Option Value → am_W → Prop} {PX : am_W → Prop} {V : am_VT} (hV : am_B l RX7 false 8 (am_cdT' tX7_ending) (am_rfL rfX7) (some .int) Post 74 V) (hT : am_TX (am_cdT' tX7_ending) 104 108 74 PX V) (n : Nat) (res : (Option Int32 × am_M × (Nat → Int64) × (Nat → Nat))) (hP : ∀ v, res.1 = some v → Post (some (.int v)) (wX7 7 18 res.2.2.2 res.2.1 res.2.2.1)) (hX : res.1 = none → PX (wX7 7 18 res.2.2.2 res.2.1 res.2.2.1)) (σ : am_M) (τ : Nat → Int64) (χ : Nat → Nat) (h : X7_ending_J74 n σ τ χ = some res) : V (wX7 7 18 χ σ τ) 74 [] [] := by
  unfold X7_ending_J74 at h
  cases h
  exact hT 134 _ _ _ _ _ _ _ _ _ rfl rfl rfl rfl rfl (List.mem_of_getElem? (i := 5) rfl) rfl (hX rfl)
def X7_ending (n : Nat) (σ : am_M) (τ : Nat → Int64) (χ : Nat → Nat) (a1 : Int32) (a2 : Int32) : Option (Option Int32 × am_M × (Nat → Int64) × (Nat → Nat)) := if a2 < 0 then (X7_ending_J19 n σ τ χ) else (if a2 = 3 then (X7_ending_J19 n σ τ χ) else (if a2 < (4 + (σ 0 2)) then (X4_explore n (am_sg σ 26) (am_sg τ 26) (σ 0 2) (σ 0 3) 0).bind (fun q4 => if ((am_pg σ 26 8 q4.1) 26 11) = 0 then (if a1 < 0 then (X7_ending_J74 n (am_pg σ 26 8 q4.1) (am_pg τ 26 8 q4.2.1) (updN χ 27 ((am_gj 26 8 (χ 27)).getD q4.2.2 0))) else (if a1 < ((am_pg σ 26 8 q4.1) 26 10) then (X4_tellEnding n (am_sg (am_pg σ 26 8 q4.1) 26) a1 a2).bind (fun q8 => some (some q8, am_pg σ 26 8 q4.1, am_pg τ 26 8 q4.2.1, updN χ 27 ((am_gj 26 8 (χ 27)).getD q4.2.2 0))) else (X7_ending_J74 n (am_pg σ 26 8 q4.1) (am_pg τ 26 8 q4.2.1) (updN χ 27 ((am_gj 26 8 (χ 27)).getD q4.2.2 0))))) else (X7_ending_J74 n (am_pg σ 26 8 q4.1) (am_pg τ 26 8 q4.2.1) (updN χ 27 ((am_gj 26 8 (χ 27)).getD q4.2.2 0)))) else (X7_ending_J19 n σ τ χ)))
set_option maxRecDepth 100000 in
set_option maxHeartbeats 4000000 in
theorem c_X7_ending (l : Launch) (hst : l.stackTraces = false) (n : Nat) (σ : am_M) (τ : Nat → Int64) (χ : Nat → Nat) (a1 : Int32) (a2 : Int32) (res : (Option Int32 × am_M × (Nat → Int64) × (Nat → Nat))) (h : X7_ending n σ τ χ a1 a2 = some res) : am_CnX l yX7_ending cX7_ending 3 (some .int) 8 [.ref 0, .int a1, .int a2] (wX7 7 18 χ σ τ) (fun (r : Option Value) (w : am_W) => ∃ v, res.1 = some v ∧ r = some (.int v) ∧ w = (wX7 7 18 res.2.2.2 res.2.1 res.2.2.1)) (fun (w : am_W) => res.1 = none ∧ w = (wX7 7 18 res.2.2.2 res.2.1 res.2.2.1)) "java/util/NoSuchElementException" := by
  refine am_metXn (n0 := 74) (cd := am_cdT' tX7_ending) (rf := am_rfL rfX7) hst am_exN rfl rfl (by decide +kernel) rfl dX7_ending rfX7_ok (Nat.le_of_ble_eq_true rfl) ?_
  intro V hV hT
  have hT : am_TX (am_cdT' tX7_ending) 104 108 74 (fun (w : am_W) => res.1 = none ∧ w = (wX7 7 18 res.2.2.2 res.2.1 res.2.2.1)) V := hT
  have hP : ∀ v, res.1 = some v → (fun (r : Option Value) (w : am_W) => ∃ v, res.1 = some v ∧ r = some (.int v) ∧ w = (wX7 7 18 res.2.2.2 res.2.1 res.2.2.1)) (some (.int v)) (wX7 7 18 res.2.2.2 res.2.1 res.2.2.1) := fun v e => ⟨v, e, rfl, rfl⟩
  have hX : res.1 = none → (fun (w : am_W) => res.1 = none ∧ w = (wX7 7 18 res.2.2.2 res.2.1 res.2.2.1)) (wX7 7 18 res.2.2.2 res.2.1 res.2.2.1) := fun e => ⟨e, rfl⟩
  show V (wX7 7 18 χ σ τ) 0 [(0, .ref 0), (1, .int a1), (2, .int a2)] []
  unfold X7_ending at h
  by_cases c1 : a2 < 0
  · rw [if_pos c1] at h
    refine hV.run 2 [1] (ws' := wX7 7 18 χ σ τ) (pc' := 19) (ls' := [(0, .ref 0), (1, .int a1), (2, .int a2)]) (st' := []) (ps := [a2 < 0]) rfl ⟨c1, trivial⟩ ?_
    refine hV.pick [] (ls' := []) rfl ?_
    exact p_X7_ending_J19 hV hT n res hP hX σ τ χ h
  · rw [if_neg c1] at h
    by_cases c2 : a2 = 3
    · rw [if_pos c2] at h
      refine hV.run 5 [0, 1] (ws' := wX7 7 18 χ σ τ) (pc' := 19) (ls' := [(0, .ref 0), (1, .int a1), (2, .int a2)]) (st' := []) (ps := [¬ a2 < 0, a2 = 3]) rfl ⟨c1, c2, trivial⟩ ?_
      refine hV.pick [] (ls' := []) rfl ?_
      exact p_X7_ending_J19 hV hT n res hP hX σ τ χ h
    · rw [if_neg c2] at h
      by_cases c3 : a2 < (4 + (σ 0 2))
      · rw [if_pos c3] at h
        refine hV.run 20 [0, 0, 1] (ws' := wX7 7 18 χ σ τ) (pc' := 46) (ls' := [(0, .ref 0), (1, .int a1), (2, .int a2)]) (st' := [.long 0, .int (σ 0 3), .int (σ 0 2), .ref 18, .ref 26]) (ps := [¬ a2 < 0, ¬ a2 = 3, a2 < (4 + (σ 0 2))]) rfl ⟨c1, c2, c3, trivial⟩ ?_
        obtain ⟨q4, hq4, h⟩ := am_bind h
        refine hV.cGv 26 8 (χ 27) (as := [.ref 12, .int (σ 0 2), .int (σ 0 3), .long 0]) (rest := []) (st := [.long 0, .int (σ 0 3), .int (σ 0 2), .ref 18, .ref 26]) (ws2 := wX7 7 18 (updN χ 27 ((am_gj 26 8 (χ 27)).getD q4.2.2 0)) (am_pg σ 26 8 q4.1) (am_pg τ 26 8 q4.2.1)) (pc2 := 49) kX7_114 (c_X4_explore l n (am_sg σ 26) (am_sg τ 26) (σ 0 2) (σ 0 3) 0 q4 hq4) rfl rfl rfl rfl rfl rfl (am_gnd0 _) rfl rfl rfl rfl rfl rfl rfl rfl ?_
        by_cases c5 : ((am_pg σ 26 8 q4.1) 26 11) = 0
        · rw [if_pos c5] at h
          by_cases c6 : a1 < 0
          · rw [if_pos c6] at h
            refine hV.run 6 [0, 1] (ws' := wX7 7 18 (updN χ 27 ((am_gj 26 8 (χ 27)).getD q4.2.2 0)) (am_pg σ 26 8 q4.1) (am_pg τ 26 8 q4.2.1)) (pc' := 74) (ls' := [(0, .ref 0), (1, .int a1), (2, .int a2)]) (st' := []) (ps := [((am_pg σ 26 8 q4.1) 26 11) = 0, a1 < 0]) rfl ⟨c5, c6, trivial⟩ ?_
            refine hV.pick [] (ls' := []) rfl ?_
            exact p_X7_ending_J74 hV hT n res hP hX (am_pg σ 26 8 q4.1) (am_pg τ 26 8 q4.2.1) (updN χ 27 ((am_gj 26 8 (χ 27)).getD q4.2.2 0)) h
          · rw [if_neg c6] at h
            by_cases c7 : a1 < ((am_pg σ 26 8 q4.1) 26 10)
            · rw [if_pos c7] at h
              refine hV.run 15 [0, 0, 1] (ws' := wX7 7 18 (updN χ 27 ((am_gj 26 8 (χ 27)).getD q4.2.2 0)) (am_pg σ 26 8 q4.1) (am_pg τ 26 8 q4.2.1)) (pc' := 90) (ls' := [(0, .ref 0), (1, .int a1), (2, .int a2)]) (st' := [.int a2, .int a1, .ref 26]) (ps := [((am_pg σ 26 8 q4.1) 26 11) = 0, ¬ a1 < 0, a1 < ((am_pg σ 26 8 q4.1) 26 10)]) rfl ⟨c5, c6, c7, trivial⟩ ?_
              obtain ⟨q8, hq8, h⟩ := am_bind h
              refine hV.cGi 26 8 ((updN χ 27 ((am_gj 26 8 (χ 27)).getD q4.2.2 0)) 27) (as := [.int a1, .int a2]) (rest := []) (st := [.int a2, .int a1, .ref 26]) (ws2 := wX7 7 18 (updN χ 27 ((am_gj 26 8 (χ 27)).getD q4.2.2 0)) (am_pg σ 26 8 q4.1) (am_pg τ 26 8 q4.2.1)) (pc2 := 93) kX7_136 (c_X4_tellEnding l n (am_sg (am_pg σ 26 8 q4.1) 26) (am_sg (am_pg τ 26 8 q4.2.1) 26) 28 a1 a2 q8 hq8) rfl rfl rfl rfl rfl rfl (am_gnd0 _) rfl rfl rfl rfl rfl rfl rfl rfl ?_
              cases h
              exact hV.ri rfl rfl rfl (hP _ rfl)
            · rw [if_neg c7] at h
              refine hV.run 11 [0, 0, 0] (ws' := wX7 7 18 (updN χ 27 ((am_gj 26 8 (χ 27)).getD q4.2.2 0)) (am_pg σ 26 8 q4.1) (am_pg τ 26 8 q4.2.1)) (pc' := 74) (ls' := [(0, .ref 0), (1, .int a1), (2, .int a2)]) (st' := []) (ps := [((am_pg σ 26 8 q4.1) 26 11) = 0, ¬ a1 < 0, ¬ a1 < ((am_pg σ 26 8 q4.1) 26 10)]) rfl ⟨c5, c6, c7, trivial⟩ ?_
              refine hV.pick [] (ls' := []) rfl ?_
              exact p_X7_ending_J74 hV hT n res hP hX (am_pg σ 26 8 q4.1) (am_pg τ 26 8 q4.2.1) (updN χ 27 ((am_gj 26 8 (χ 27)).getD q4.2.2 0)) h
        · rw [if_neg c5] at h
          refine hV.run 4 [1] (ws' := wX7 7 18 (updN χ 27 ((am_gj 26 8 (χ 27)).getD q4.2.2 0)) (am_pg σ 26 8 q4.1) (am_pg τ 26 8 q4.2.1)) (pc' := 74) (ls' := [(0, .ref 0), (1, .int a1), (2, .int a2)]) (st' := []) (ps := [¬ ((am_pg σ 26 8 q4.1) 26 11) = 0]) rfl ⟨c5, trivial⟩ ?_
          refine hV.pick [] (ls' := []) rfl ?_
          exact p_X7_ending_J74 hV hT n res hP hX (am_pg σ 26 8 q4.1) (am_pg τ 26 8 q4.2.1) (updN χ 27 ((am_gj 26 8 (χ 27)).getD q4.2.2 0)) h
      · rw [if_neg c3] at h
        refine hV.run 11 [0, 0, 0] (ws' := wX7 7 18 χ σ τ) (pc' := 19) (ls' := [(0, .ref 0), (1, .int a1), (2, .int a2)]) (st' := []) (ps := [¬ a2 < 0, ¬ a2 = 3, ¬ a2 < (4 + (σ 0 2))]) rfl ⟨c1, c2, c3, trivial⟩ ?_
        refine hV.pick [] (ls' := []) rfl ?_
        exact p_X7_ending_J19 hV hT n res hP hX σ τ χ h

def X7_could_J20 (n : Nat) (σ : am_M) (τ : Nat → Int64) (χ : Nat → Nat) : Option (Option Int32 × am_M × (Nat → Int64) × (Nat → Nat)) := some (none, σ, τ, χ)
set_option maxRecDepth 100000 in
set_option maxHeartbeats 4000000 in
theorem p_X7_could_J20 {l : Launch} {Post : Option Value → am_W → Prop} {PX : am_W → Prop} {V : am_VT} (hV : am_B l RX7 false 8 (am_cdT' tX7_could) (am_rfL rfX7) (some .int) Post 74 V) (hT : am_TX (am_cdT' tX7_could) 104 108 74 PX V) (n : Nat) (res : (Option Int32 × am_M × (Nat → Int64) × (Nat → Nat))) (hP : ∀ v, res.1 = some v → Post (some (.int v)) (wX7 7 18 res.2.2.2 res.2.1 res.2.2.1)) (hX : res.1 = none → PX (wX7 7 18 res.2.2.2 res.2.1 res.2.2.1)) (σ : am_M) (τ : Nat → Int64) (χ : Nat → Nat) (h : X7_could_J20 n σ τ χ = some res) : V (wX7 7 18 χ σ τ) 20 [] [] := by
  unfold X7_could_J20 at h
  cases h
  exact hT 147 _ _ _ _ _ _ _ _ _ rfl rfl rfl rfl rfl (List.mem_of_getElem? (i := 6) rfl) rfl (hX rfl)
def X7_could (n : Nat) (σ : am_M) (τ : Nat → Int64) (χ : Nat → Nat) (a1 : Int32) (a2 : Int32) : Option (Option Int32 × am_M × (Nat → Int64) × (Nat → Nat)) := if (X7_isNoHand σ a1) = true then (X7_could_J20 n σ τ χ) else (if (X3_kindOf (am_sub σ 18) a2) = 4 then (X4_explore n (am_sg σ 26) (am_sg τ 26) (σ 0 2) (σ 0 3) 0).bind (fun q3 => if ((am_pg σ 26 8 q3.1) 26 11) = 0 then (some (some (X4_takenFrom (am_sg (am_pg σ 26 8 q3.1) 26) a1 a2), am_pg σ 26 8 q3.1, am_pg τ 26 8 q3.2.1, updN χ 27 ((am_gj 26 8 (χ 27)).getD q3.2.2 0))) else (some (some (-1), am_pg σ 26 8 q3.1, am_pg τ 26 8 q3.2.1, updN χ 27 ((am_gj 26 8 (χ 27)).getD q3.2.2 0)))) else (X7_could_J20 n σ τ χ))
set_option maxRecDepth 100000 in
set_option maxHeartbeats 4000000 in
theorem c_X7_could (l : Launch) (hst : l.stackTraces = false) (n : Nat) (σ : am_M) (τ : Nat → Int64) (χ : Nat → Nat) (a1 : Int32) (a2 : Int32) (res : (Option Int32 × am_M × (Nat → Int64) × (Nat → Nat))) (h : X7_could n σ τ χ a1 a2 = some res) : am_CnX l yX7_could cX7_could 3 (some .int) 8 [.ref 0, .int a1, .int a2] (wX7 7 18 χ σ τ) (fun (r : Option Value) (w : am_W) => ∃ v, res.1 = some v ∧ r = some (.int v) ∧ w = (wX7 7 18 res.2.2.2 res.2.1 res.2.2.1)) (fun (w : am_W) => res.1 = none ∧ w = (wX7 7 18 res.2.2.2 res.2.1 res.2.2.1)) "java/util/NoSuchElementException" := by
  refine am_metXn (n0 := 74) (cd := am_cdT' tX7_could) (rf := am_rfL rfX7) hst am_exN rfl rfl (by decide +kernel) rfl dX7_could rfX7_ok (Nat.le_of_ble_eq_true rfl) ?_
  intro V hV hT
  have hT : am_TX (am_cdT' tX7_could) 104 108 74 (fun (w : am_W) => res.1 = none ∧ w = (wX7 7 18 res.2.2.2 res.2.1 res.2.2.1)) V := hT
  have hP : ∀ v, res.1 = some v → (fun (r : Option Value) (w : am_W) => ∃ v, res.1 = some v ∧ r = some (.int v) ∧ w = (wX7 7 18 res.2.2.2 res.2.1 res.2.2.1)) (some (.int v)) (wX7 7 18 res.2.2.2 res.2.1 res.2.2.1) := fun v e => ⟨v, e, rfl, rfl⟩
  have hX : res.1 = none → (fun (w : am_W) => res.1 = none ∧ w = (wX7 7 18 res.2.2.2 res.2.1 res.2.2.1)) (wX7 7 18 res.2.2.2 res.2.1 res.2.2.1) := fun e => ⟨e, rfl⟩
  show V (wX7 7 18 χ σ τ) 0 [(0, .ref 0), (1, .int a1), (2, .int a2)] []
  unfold X7_could at h
  refine hV.run 2 [] (ws' := wX7 7 18 χ σ τ) (pc' := 2) (ls' := [(0, .ref 0), (1, .int a1), (2, .int a2)]) (st' := [.int a1, .ref 0]) (ps := []) rfl trivial ?_
  refine hV.cOi (as := [.int a1]) (rest := []) (st := [.int a1, .ref 0]) (ws2 := wX7 7 18 χ σ τ) (pc2 := 5) kX7_144 (c_X7_isNoHand l σ τ χ a1) rfl rfl rfl rfl rfl rfl rfl rfl rfl ?_
  by_cases c1 : (X7_isNoHand σ a1) = true
  · rw [if_pos c1] at h
    refine hV.run 1 [1] (ws' := wX7 7 18 χ σ τ) (pc' := 20) (ls' := [(0, .ref 0), (1, .int a1), (2, .int a2)]) (st' := []) (ps := [¬ (b2i (X7_isNoHand σ a1)) = 0]) rfl ⟨(b2i_t c1), trivial⟩ ?_
    refine hV.pick [] (ls' := []) rfl ?_
    exact p_X7_could_J20 hV hT n res hP hX σ τ χ h
  · rw [if_neg c1] at h
    refine hV.run 4 [0] (ws' := wX7 7 18 χ σ τ) (pc' := 13) (ls' := [(0, .ref 0), (1, .int a1), (2, .int a2)]) (st' := [.int a2, .ref 18]) (ps := [(b2i (X7_isNoHand σ a1)) = 0]) rfl ⟨(b2i_f c1), trivial⟩ ?_
    refine hV.cBi 18 8 [] (as := [.int a2]) (rest := []) (st := [.int a2, .ref 18]) (ws2 := wX7 7 18 χ σ τ) (pc2 := 16) kX7_109 (c_X3_kindOf l (am_sub σ 18) a2) rfl rfl rfl rfl rfl rfl rfl rfl rfl rfl rfl rfl rfl rfl ?_
    by_cases c2 : (X3_kindOf (am_sub σ 18) a2) = 4
    · rw [if_pos c2] at h
      refine hV.run 11 [1] (ws' := wX7 7 18 χ σ τ) (pc' := 47) (ls' := [(0, .ref 0), (1, .int a1), (2, .int a2)]) (st' := [.long 0, .int (σ 0 3), .int (σ 0 2), .ref 18, .ref 26]) (ps := [(X3_kindOf (am_sub σ 18) a2) = 4]) rfl ⟨c2, trivial⟩ ?_
      obtain ⟨q3, hq3, h⟩ := am_bind h
      refine hV.cGv 26 8 (χ 27) (as := [.ref 12, .int (σ 0 2), .int (σ 0 3), .long 0]) (rest := []) (st := [.long 0, .int (σ 0 3), .int (σ 0 2), .ref 18, .ref 26]) (ws2 := wX7 7 18 (updN χ 27 ((am_gj 26 8 (χ 27)).getD q3.2.2 0)) (am_pg σ 26 8 q3.1) (am_pg τ 26 8 q3.2.1)) (pc2 := 50) kX7_114 (c_X4_explore l n (am_sg σ 26) (am_sg τ 26) (σ 0 2) (σ 0 3) 0 q3 hq3) rfl rfl rfl rfl rfl rfl (am_gnd0 _) rfl rfl rfl rfl rfl rfl rfl rfl ?_
      by_cases c4 : ((am_pg σ 26 8 q3.1) 26 11) = 0
      · rw [if_pos c4] at h
        refine hV.run 8 [1] (ws' := wX7 7 18 (updN χ 27 ((am_gj 26 8 (χ 27)).getD q3.2.2 0)) (am_pg σ 26 8 q3.1) (am_pg τ 26 8 q3.2.1)) (pc' := 70) (ls' := [(0, .ref 0), (1, .int a1), (2, .int a2)]) (st' := [.int a2, .int a1, .ref 26]) (ps := [((am_pg σ 26 8 q3.1) 26 11) = 0]) rfl ⟨c4, trivial⟩ ?_
        refine hV.cGi 26 8 ((updN χ 27 ((am_gj 26 8 (χ 27)).getD q3.2.2 0)) 27) (as := [.int a1, .int a2]) (rest := []) (st := [.int a2, .int a1, .ref 26]) (ws2 := wX7 7 18 (updN χ 27 ((am_gj 26 8 (χ 27)).getD q3.2.2 0)) (am_pg σ 26 8 q3.1) (am_pg τ 26 8 q3.2.1)) (pc2 := 73) kX7_149 (c_X4_takenFrom l (am_sg (am_pg σ 26 8 q3.1) 26) (am_sg (am_pg τ 26 8 q3.2.1) 26) 28 a1 a2) rfl rfl rfl rfl rfl rfl (am_gnd0 _) rfl rfl rfl rfl rfl rfl rfl rfl ?_
        cases h
        exact hV.ri rfl rfl rfl (hP _ rfl)
      · rw [if_neg c4] at h
        refine hV.run 6 [0] (ws' := wX7 7 18 (updN χ 27 ((am_gj 26 8 (χ 27)).getD q3.2.2 0)) (am_pg σ 26 8 q3.1) (am_pg τ 26 8 q3.2.1)) (pc' := 73) (ls' := [(0, .ref 0), (1, .int a1), (2, .int a2)]) (st' := [.int (-1)]) (ps := [¬ ((am_pg σ 26 8 q3.1) 26 11) = 0]) rfl ⟨c4, trivial⟩ ?_
        cases h
        exact hV.ri rfl rfl rfl (hP _ rfl)
    · rw [if_neg c2] at h
      refine hV.run 2 [0] (ws' := wX7 7 18 χ σ τ) (pc' := 20) (ls' := [(0, .ref 0), (1, .int a1), (2, .int a2)]) (st' := []) (ps := [¬ (X3_kindOf (am_sub σ 18) a2) = 4]) rfl ⟨c2, trivial⟩ ?_
      refine hV.pick [] (ls' := []) rfl ?_
      exact p_X7_could_J20 hV hT n res hP hX σ τ χ h

def X7_left_J19 (σ : am_M) (τ : Nat → Int64) : Option (Option Bool) := some none
set_option maxRecDepth 100000 in
set_option maxHeartbeats 4000000 in
theorem p_X7_left_J19 {l : Launch} {Post : Option Value → am_W → Prop} {PX : am_W → Prop} {V : am_VT} (hV : am_B l RX7 false 6 (am_cdT' tX7_left) (am_rfL rfX7) (some .boolean) Post 74 V) (hT : am_TX (am_cdT' tX7_left) 104 108 74 PX V) (σ : am_M) (τ : Nat → Int64) (χ : Nat → Nat) (res : (Option Bool)) (hP : ∀ v, res = some v → Post (some (.int (b2i v))) (wX7 7 18 χ σ τ)) (hX : res = none → PX (wX7 7 18 χ σ τ)) (h : X7_left_J19 σ τ = some res) : V (wX7 7 18 χ σ τ) 19 [] [] := by
  unfold X7_left_J19 at h
  cases h
  exact hT 159 _ _ _ _ _ _ _ _ _ rfl rfl rfl rfl rfl (List.mem_of_getElem? (i := 7) rfl) rfl (hX rfl)
def X7_left (σ : am_M) (τ : Nat → Int64) (a1 : Int32) : Option (Option Bool) := if (σ 0 10) = 0 then (X7_left_J19 σ τ) else (if (X3_kindOf (am_sub σ 18) a1) = (-1) then (X7_left_J19 σ τ) else (if (lg_cmp ((am_lushr (τ 0) a1) &&& 1) 0) = 0 then (some (some true)) else (some (some false))))
set_option maxRecDepth 100000 in
set_option maxHeartbeats 4000000 in
theorem c_X7_left (l : Launch) (hst : l.stackTraces = false) (σ : am_M) (τ : Nat → Int64) (χ : Nat → Nat) (a1 : Int32) (res : (Option Bool)) (h : X7_left σ τ a1 = some res) : am_CnX l yX7_left cX7_left 2 (some .boolean) 6 [.ref 0, .int a1] (wX7 7 18 χ σ τ) (fun (r : Option Value) (w : am_W) => ∃ v, res = some v ∧ r = some (.int (b2i v)) ∧ w = (wX7 7 18 χ σ τ)) (fun (w : am_W) => res = none ∧ w = (wX7 7 18 χ σ τ)) "java/util/NoSuchElementException" := by
  refine am_metXn (n0 := 74) (cd := am_cdT' tX7_left) (rf := am_rfL rfX7) hst am_exN rfl rfl (by decide +kernel) rfl dX7_left rfX7_ok (Nat.le_of_ble_eq_true rfl) ?_
  intro V hV hT
  have hT : am_TX (am_cdT' tX7_left) 104 108 74 (fun (w : am_W) => res = none ∧ w = (wX7 7 18 χ σ τ)) V := hT
  have hP : ∀ v, res = some v → (fun (r : Option Value) (w : am_W) => ∃ v, res = some v ∧ r = some (.int (b2i v)) ∧ w = (wX7 7 18 χ σ τ)) (some (.int (b2i v))) (wX7 7 18 χ σ τ) := fun v e => ⟨v, e, rfl, rfl⟩
  have hX : res = none → (fun (w : am_W) => res = none ∧ w = (wX7 7 18 χ σ τ)) (wX7 7 18 χ σ τ) := fun e => ⟨e, rfl⟩
  show V (wX7 7 18 χ σ τ) 0 [(0, .ref 0), (1, .int a1)] []
  unfold X7_left at h
  by_cases c1 : (σ 0 10) = 0
  · rw [if_pos c1] at h
    refine hV.run 3 [1] (ws' := wX7 7 18 χ σ τ) (pc' := 19) (ls' := [(0, .ref 0), (1, .int a1)]) (st' := []) (ps := [(σ 0 10) = 0]) rfl ⟨c1, trivial⟩ ?_
    refine hV.pick [] (ls' := []) rfl ?_
    exact p_X7_left_J19 hV hT σ τ χ res hP hX h
  · rw [if_neg c1] at h
    refine hV.run 6 [0] (ws' := wX7 7 18 χ σ τ) (pc' := 12) (ls' := [(0, .ref 0), (1, .int a1)]) (st' := [.int a1, .ref 18]) (ps := [¬ (σ 0 10) = 0]) rfl ⟨c1, trivial⟩ ?_
    refine hV.cBi 18 8 [] (as := [.int a1]) (rest := []) (st := [.int a1, .ref 18]) (ws2 := wX7 7 18 χ σ τ) (pc2 := 15) kX7_109 (c_X3_kindOf l (am_sub σ 18) a1) rfl rfl rfl rfl rfl rfl rfl rfl rfl rfl rfl rfl rfl rfl ?_
    by_cases c2 : (X3_kindOf (am_sub σ 18) a1) = (-1)
    · rw [if_pos c2] at h
      refine hV.run 2 [0] (ws' := wX7 7 18 χ σ τ) (pc' := 19) (ls' := [(0, .ref 0), (1, .int a1)]) (st' := []) (ps := [(X3_kindOf (am_sub σ 18) a1) = (-1)]) rfl ⟨c2, trivial⟩ ?_
      refine hV.pick [] (ls' := []) rfl ?_
      exact p_X7_left_J19 hV hT σ τ χ res hP hX h
    · rw [if_neg c2] at h
      by_cases c3 : (lg_cmp ((am_lushr (τ 0) a1) &&& 1) 0) = 0
      · rw [if_pos c3] at h
        refine hV.run 13 [1, 0] (ws' := wX7 7 18 χ σ τ) (pc' := 47) (ls' := [(0, .ref 0), (1, .int a1)]) (st' := [.int 1]) (ps := [¬ (X3_kindOf (am_sub σ 18) a1) = (-1), (lg_cmp ((am_lushr (τ 0) a1) &&& 1) 0) = 0]) rfl ⟨c2, c3, trivial⟩ ?_
        cases h
        exact hV.rz rfl rfl rfl (Or.inr rfl) (hP _ rfl)
      · rw [if_neg c3] at h
        refine hV.run 12 [1, 1] (ws' := wX7 7 18 χ σ τ) (pc' := 47) (ls' := [(0, .ref 0), (1, .int a1)]) (st' := [.int 0]) (ps := [¬ (X3_kindOf (am_sub σ 18) a1) = (-1), ¬ (lg_cmp ((am_lushr (τ 0) a1) &&& 1) 0) = 0]) rfl ⟨c2, c3, trivial⟩ ?_
        cases h
        exact hV.rz rfl rfl rfl (Or.inl rfl) (hP _ rfl)

def X7_play_J10 (n : Nat) (σ : am_M) (τ : Nat → Int64) (χ : Nat → Nat) : Option (Option Int32 × am_M × (Nat → Int64) × (Nat → Nat)) := some (none, σ, τ, χ)
set_option maxRecDepth 100000 in
set_option maxHeartbeats 4000000 in
theorem p_X7_play_J10 {l : Launch} {Post : Option Value → am_W → Prop} {PX : am_W → Prop} {V : am_VT} (hV : am_B l RX7 false 8 (am_cdT' tX7_play) (am_rfL rfX7) (some .int) Post 74 V) (hT : am_TX (am_cdT' tX7_play) 57 61 74 PX V) (n : Nat) (res : (Option Int32 × am_M × (Nat → Int64) × (Nat → Nat))) (hP : ∀ v, res.1 = some v → Post (some (.int v)) (wX7 7 18 res.2.2.2 res.2.1 res.2.2.1)) (hX : res.1 = none → PX (wX7 7 18 res.2.2.2 res.2.1 res.2.2.1)) (σ : am_M) (τ : Nat → Int64) (χ : Nat → Nat) (h : X7_play_J10 n σ τ χ = some res) : V (wX7 7 18 χ σ τ) 10 [] [] := by
  unfold X7_play_J10 at h
  cases h
  exact hT 161 _ _ _ _ _ _ _ _ _ rfl rfl rfl rfl rfl (List.mem_of_getElem? (i := 8) rfl) rfl (hX rfl)
def X7_play_B23 (n : Nat) (kont23 : am_M → (Nat → Int64) → (Nat → Nat) → Int32 → Int64 → Int32 → Option (Option Int32 × am_M × (Nat → Int64) × (Nat → Nat))) (σ : am_M) (τ : Nat → Int64) (χ : Nat → Nat) (l1 : Int32) (l2 : Int64) (l4 : Int32) : Option (Option Int32 × am_M × (Nat → Int64) × (Nat → Nat)) := if l1 ≤ l4 then (X0_run n (am_sg (sC σ 0 (am_u (σ 0) 9 1)) 46) (am_sg τ 46) (σ 0 2) (σ 0 3) (σ 0 4) (σ 0 5) l1 l2).bind (fun q2 => some (some q2.1, am_pg (sC σ 0 (am_u (σ 0) 9 1)) 46 2 q2.2.1, am_pg τ 46 2 q2.2.2, updN χ 47 18)) else (if (X7_isNoHand σ (X7_choiceOf l2 l4)) = true then (some (none, σ, τ, χ)) else (kont23 σ τ χ l1 l2 (l4 + 1)))
def X7_play_L23 (n : Nat) : Nat → am_M → (Nat → Int64) → (Nat → Nat) → Int32 → Int64 → Int32 → Option (Option Int32 × am_M × (Nat → Int64) × (Nat → Nat))
 | 0 => fun _ _ _ _ _ _ => none
 | k + 1 => fun σ τ χ l1 l2 l4 => X7_play_B23 n (X7_play_L23 n k) σ τ χ l1 l2 l4
set_option maxRecDepth 100000 in
set_option maxHeartbeats 4000000 in
theorem p_X7_play_B23 {l : Launch} {Post : Option Value → am_W → Prop} {PX : am_W → Prop} {V : am_VT} (hV : am_B l RX7 false 8 (am_cdT' tX7_play) (am_rfL rfX7) (some .int) Post 74 V) (hT : am_TX (am_cdT' tX7_play) 57 61 74 PX V) (n : Nat) (res : (Option Int32 × am_M × (Nat → Int64) × (Nat → Nat))) (hP : ∀ v, res.1 = some v → Post (some (.int v)) (wX7 7 18 res.2.2.2 res.2.1 res.2.2.1)) (hX : res.1 = none → PX (wX7 7 18 res.2.2.2 res.2.1 res.2.2.1)) (kont23 : am_M → (Nat → Int64) → (Nat → Nat) → Int32 → Int64 → Int32 → Option (Option Int32 × am_M × (Nat → Int64) × (Nat → Nat))) (hk23 : ∀ (σ : am_M) (τ : Nat → Int64) (χ : Nat → Nat) (l1 : Int32) (l2 : Int64) (l4 : Int32), kont23 σ τ χ l1 l2 l4 = some res → V (wX7 7 18 χ σ τ) 23 [(0, .ref 0), (1, .int l1), (2, .long l2), (4, .int l4)] []) (σ : am_M) (τ : Nat → Int64) (χ : Nat → Nat) (l1 : Int32) (l2 : Int64) (l4 : Int32) (h : X7_play_B23 n kont23 σ τ χ l1 l2 l4 = some res) : V (wX7 7 18 χ σ τ) 23 [(0, .ref 0), (1, .int l1), (2, .long l2), (4, .int l4)] [] := by
  unfold X7_play_B23 at h
  by_cases c1 : l1 ≤ l4
  · rw [if_pos c1] at h
    refine hV.run 20 [1] (ws' := wX7 7 18 χ (sC σ 0 (am_u (σ 0) 9 1)) τ) (pc' := 89) (ls' := [(0, .ref 0), (1, .int l1), (2, .long l2), (4, .int l4)]) (st' := [.long l2, .int l1, .int (σ 0 5), .int (σ 0 4), .int (σ 0 3), .int (σ 0 2), .ref 18, .ref 46]) (ps := [l1 ≤ l4, (1 : Int32) = 0 ∨ (1 : Int32) = 1]) rfl ⟨c1, (Or.inr rfl), trivial⟩ ?_
    obtain ⟨q2, hq2, h⟩ := am_bind h
    refine hV.cGi 46 2 (χ 47) (as := [.ref 12, .int (σ 0 2), .int (σ 0 3), .int (σ 0 4), .int (σ 0 5), .int l1, .long l2]) (rest := []) (st := [.long l2, .int l1, .int (σ 0 5), .int (σ 0 4), .int (σ 0 3), .int (σ 0 2), .ref 18, .ref 46]) (ws2 := wX7 7 18 (updN χ 47 18) (am_pg (sC σ 0 (am_u (σ 0) 9 1)) 46 2 q2.2.1) (am_pg τ 46 2 q2.2.2)) (pc2 := 92) kX7_169 (c_X0_run l n (am_sg (sC σ 0 (am_u (σ 0) 9 1)) 46) (am_sg τ 46) (σ 0 2) (σ 0 3) (σ 0 4) (σ 0 5) l1 l2 q2 hq2) rfl rfl rfl rfl rfl rfl (am_gnd1 _) rfl rfl rfl rfl rfl rfl rfl rfl ?_
    cases h
    exact hV.ri rfl rfl rfl (hP _ rfl)
  · rw [if_neg c1] at h
    refine hV.run 6 [0] (ws' := wX7 7 18 χ σ τ) (pc' := 33) (ls' := [(0, .ref 0), (1, .int l1), (2, .long l2), (4, .int l4)]) (st' := [.int l4, .long l2, .ref 0]) (ps := [¬ l1 ≤ l4]) rfl ⟨c1, trivial⟩ ?_
    refine hV.cSi (as := [.long l2, .int l4]) (js := []) (rest := [.ref 0]) (st := [.int l4, .long l2, .ref 0]) (ws2 := wX7 7 18 χ σ τ) (pc2 := 36) kX7_163 (c_X7_choiceOf l l2 l4) rfl rfl rfl rfl rfl rfl rfl rfl rfl rfl ?_
    refine hV.cOi (as := [.int (X7_choiceOf l2 l4)]) (rest := []) (st := [.int (X7_choiceOf l2 l4), .ref 0]) (ws2 := wX7 7 18 χ σ τ) (pc2 := 39) kX7_144 (c_X7_isNoHand l σ τ χ (X7_choiceOf l2 l4)) rfl rfl rfl rfl rfl rfl rfl rfl rfl ?_
    by_cases c3 : (X7_isNoHand σ (X7_choiceOf l2 l4)) = true
    · rw [if_pos c3] at h
      refine hV.run 1 [0] (ws' := wX7 7 18 χ σ τ) (pc' := 42) (ls' := [(0, .ref 0), (1, .int l1), (2, .long l2), (4, .int l4)]) (st' := []) (ps := [¬ (b2i (X7_isNoHand σ (X7_choiceOf l2 l4))) = 0]) rfl ⟨(b2i_t c3), trivial⟩ ?_
      cases h
      exact hT 167 _ _ _ _ _ _ _ _ _ rfl rfl rfl rfl rfl (List.mem_of_getElem? (i := 9) rfl) rfl (hX rfl)
    · rw [if_neg c3] at h
      refine hV.run 3 [1] (ws' := wX7 7 18 χ σ τ) (pc' := 23) (ls' := [(4, .int (l4 + 1)), (0, .ref 0), (1, .int l1), (2, .long l2)]) (st' := []) (ps := [(b2i (X7_isNoHand σ (X7_choiceOf l2 l4))) = 0]) rfl ⟨(b2i_f c3), trivial⟩ ?_
      refine hV.pick [1, 2, 3, 0] (ls' := [(0, .ref 0), (1, .int l1), (2, .long l2), (4, .int (l4 + 1))]) rfl ?_
      exact hk23 σ τ χ l1 l2 (l4 + 1) h
theorem p_X7_play_L23 {l : Launch} {Post : Option Value → am_W → Prop} {PX : am_W → Prop} {V : am_VT} (hV : am_B l RX7 false 8 (am_cdT' tX7_play) (am_rfL rfX7) (some .int) Post 74 V) (hT : am_TX (am_cdT' tX7_play) 57 61 74 PX V) (n : Nat) (res : (Option Int32 × am_M × (Nat → Int64) × (Nat → Nat))) (hP : ∀ v, res.1 = some v → Post (some (.int v)) (wX7 7 18 res.2.2.2 res.2.1 res.2.2.1)) (hX : res.1 = none → PX (wX7 7 18 res.2.2.2 res.2.1 res.2.2.1)) : ∀ (k : Nat) (σ : am_M) (τ : Nat → Int64) (χ : Nat → Nat) (l1 : Int32) (l2 : Int64) (l4 : Int32) (h : X7_play_L23 n k σ τ χ l1 l2 l4 = some res), V (wX7 7 18 χ σ τ) 23 [(0, .ref 0), (1, .int l1), (2, .long l2), (4, .int l4)] [] := by
  intro k
  induction k with
  | zero => intro σ τ χ l1 l2 l4 h; cases h
  | succ k ih => intro σ τ χ l1 l2 l4 h; exact p_X7_play_B23 hV hT n res hP hX _ ih σ τ χ l1 l2 l4 h
def X7_play (n : Nat) (σ : am_M) (τ : Nat → Int64) (χ : Nat → Nat) (a1 : Int32) (a2 : Int64) : Option (Option Int32 × am_M × (Nat → Int64) × (Nat → Nat)) := if a1 < 0 then (X7_play_J10 n σ τ χ) else (if a1 ≤ 16 then (X7_play_L23 n n σ τ χ a1 a2 0) else (X7_play_J10 n σ τ χ))
set_option maxRecDepth 100000 in
set_option maxHeartbeats 4000000 in
theorem c_X7_play (l : Launch) (hst : l.stackTraces = false) (n : Nat) (σ : am_M) (τ : Nat → Int64) (χ : Nat → Nat) (a1 : Int32) (a2 : Int64) (res : (Option Int32 × am_M × (Nat → Int64) × (Nat → Nat))) (h : X7_play n σ τ χ a1 a2 = some res) : am_CnX l yX7_play cX7_play 5 (some .int) 8 [.ref 0, .int a1, .long a2] (wX7 7 18 χ σ τ) (fun (r : Option Value) (w : am_W) => ∃ v, res.1 = some v ∧ r = some (.int v) ∧ w = (wX7 7 18 res.2.2.2 res.2.1 res.2.2.1)) (fun (w : am_W) => res.1 = none ∧ w = (wX7 7 18 res.2.2.2 res.2.1 res.2.2.1)) "java/lang/IllegalArgumentException" := by
  refine am_metXn (n0 := 74) (cd := am_cdT' tX7_play) (rf := am_rfL rfX7) hst am_exI rfl rfl (by decide +kernel) rfl dX7_play rfX7_ok (Nat.le_of_ble_eq_true rfl) ?_
  intro V hV hT
  have hT : am_TX (am_cdT' tX7_play) 57 61 74 (fun (w : am_W) => res.1 = none ∧ w = (wX7 7 18 res.2.2.2 res.2.1 res.2.2.1)) V := hT
  have hP : ∀ v, res.1 = some v → (fun (r : Option Value) (w : am_W) => ∃ v, res.1 = some v ∧ r = some (.int v) ∧ w = (wX7 7 18 res.2.2.2 res.2.1 res.2.2.1)) (some (.int v)) (wX7 7 18 res.2.2.2 res.2.1 res.2.2.1) := fun v e => ⟨v, e, rfl, rfl⟩
  have hX : res.1 = none → (fun (w : am_W) => res.1 = none ∧ w = (wX7 7 18 res.2.2.2 res.2.1 res.2.2.1)) (wX7 7 18 res.2.2.2 res.2.1 res.2.2.1) := fun e => ⟨e, rfl⟩
  show V (wX7 7 18 χ σ τ) 0 [(0, .ref 0), (1, .int a1), (2, .long a2)] []
  unfold X7_play at h
  by_cases c1 : a1 < 0
  · rw [if_pos c1] at h
    refine hV.run 2 [1] (ws' := wX7 7 18 χ σ τ) (pc' := 10) (ls' := [(0, .ref 0), (1, .int a1), (2, .long a2)]) (st' := []) (ps := [a1 < 0]) rfl ⟨c1, trivial⟩ ?_
    refine hV.pick [] (ls' := []) rfl ?_
    exact p_X7_play_J10 hV hT n res hP hX σ τ χ h
  · rw [if_neg c1] at h
    by_cases c2 : a1 ≤ 16
    · rw [if_pos c2] at h
      refine hV.run 7 [0, 1] (ws' := wX7 7 18 χ σ τ) (pc' := 23) (ls' := [(4, .int 0), (0, .ref 0), (1, .int a1), (2, .long a2)]) (st' := []) (ps := [¬ a1 < 0, a1 ≤ 16]) rfl ⟨c1, c2, trivial⟩ ?_
      refine hV.pick [1, 2, 3, 0] (ls' := [(0, .ref 0), (1, .int a1), (2, .long a2), (4, .int 0)]) rfl ?_
      exact p_X7_play_L23 hV hT n res hP hX n σ τ χ a1 a2 0 h
    · rw [if_neg c2] at h
      refine hV.run 5 [0, 0] (ws' := wX7 7 18 χ σ τ) (pc' := 10) (ls' := [(0, .ref 0), (1, .int a1), (2, .long a2)]) (st' := []) (ps := [¬ a1 < 0, ¬ a1 ≤ 16]) rfl ⟨c1, c2, trivial⟩ ?_
      refine hV.pick [] (ls' := []) rfl ?_
      exact p_X7_play_J10 hV hT n res hP hX σ τ χ h

def X7_of_J31 (n : Nat) (σ : am_M) (χ : Nat → Nat) : Option (Option Int32) := some none
set_option maxRecDepth 100000 in
set_option maxHeartbeats 4000000 in
theorem p_X7_of_J31 {l : Launch} {Post : Option Value → am_W → Prop} {PX : am_W → Prop} {V : am_VT} (hV : am_B l RX7 false 7 (am_cdT' tX7_of) (am_rfL rfX7) (some .int) Post 74 V) (hT : am_TX (am_cdT' tX7_of) 104 108 74 PX V) (n : Nat) (σ : am_M) (χ : Nat → Nat) (τ : Nat → Int64) (res : (Option Int32)) (hP : ∀ v, res = some v → Post (some (.int v)) (wX7 7 18 χ σ τ)) (hX : res = none → PX (wX7 7 18 χ σ τ)) (h : X7_of_J31 n σ χ = some res) : V (wX7 7 18 χ σ τ) 31 [] [] := by
  unfold X7_of_J31 at h
  cases h
  exact hT 173 _ _ _ _ _ _ _ _ _ rfl rfl rfl rfl rfl (List.mem_of_getElem? (i := 10) rfl) rfl (hX rfl)
def X7_of (n : Nat) (σ : am_M) (χ : Nat → Nat) (a1 : Int32) (a2 : Int32) : Option (Option Int32) := if (σ 0 9) = 0 then (X7_of_J31 n σ χ) else (if (X7_isNoHand σ a1) = true then (X7_of_J31 n σ χ) else (if a2 < 0 then (X7_of_J31 n σ χ) else (if a2 = 7 then (X7_of_J31 n σ χ) else (if a2 ≤ 11 then (if ¬ (χ 47) = 18 then none else (X0_tellHand n (am_sg σ 46) a1 a2).bind (fun q8 => some (some q8))) else (X7_of_J31 n σ χ)))))
set_option maxRecDepth 100000 in
set_option maxHeartbeats 4000000 in
theorem c_X7_of (l : Launch) (hst : l.stackTraces = false) (n : Nat) (σ : am_M) (χ : Nat → Nat) (τ : Nat → Int64) (a1 : Int32) (a2 : Int32) (res : (Option Int32)) (h : X7_of n σ χ a1 a2 = some res) : am_CnX l yX7_of cX7_of 3 (some .int) 7 [.ref 0, .int a1, .int a2] (wX7 7 18 χ σ τ) (fun (r : Option Value) (w : am_W) => ∃ v, res = some v ∧ r = some (.int v) ∧ w = (wX7 7 18 χ σ τ)) (fun (w : am_W) => res = none ∧ w = (wX7 7 18 χ σ τ)) "java/util/NoSuchElementException" := by
  refine am_metXn (n0 := 74) (cd := am_cdT' tX7_of) (rf := am_rfL rfX7) hst am_exN rfl rfl (by decide +kernel) rfl dX7_of rfX7_ok (Nat.le_of_ble_eq_true rfl) ?_
  intro V hV hT
  have hT : am_TX (am_cdT' tX7_of) 104 108 74 (fun (w : am_W) => res = none ∧ w = (wX7 7 18 χ σ τ)) V := hT
  have hP : ∀ v, res = some v → (fun (r : Option Value) (w : am_W) => ∃ v, res = some v ∧ r = some (.int v) ∧ w = (wX7 7 18 χ σ τ)) (some (.int v)) (wX7 7 18 χ σ τ) := fun v e => ⟨v, e, rfl, rfl⟩
  have hX : res = none → (fun (w : am_W) => res = none ∧ w = (wX7 7 18 χ σ τ)) (wX7 7 18 χ σ τ) := fun e => ⟨e, rfl⟩
  show V (wX7 7 18 χ σ τ) 0 [(0, .ref 0), (1, .int a1), (2, .int a2)] []
  unfold X7_of at h
  by_cases c1 : (σ 0 9) = 0
  · rw [if_pos c1] at h
    refine hV.run 3 [1] (ws' := wX7 7 18 χ σ τ) (pc' := 31) (ls' := [(0, .ref 0), (1, .int a1), (2, .int a2)]) (st' := []) (ps := [(σ 0 9) = 0]) rfl ⟨c1, trivial⟩ ?_
    refine hV.pick [] (ls' := []) rfl ?_
    exact p_X7_of_J31 hV hT n σ χ τ res hP hX h
  · rw [if_neg c1] at h
    refine hV.run 5 [0] (ws' := wX7 7 18 χ σ τ) (pc' := 9) (ls' := [(0, .ref 0), (1, .int a1), (2, .int a2)]) (st' := [.int a1, .ref 0]) (ps := [¬ (σ 0 9) = 0]) rfl ⟨c1, trivial⟩ ?_
    refine hV.cOi (as := [.int a1]) (rest := []) (st := [.int a1, .ref 0]) (ws2 := wX7 7 18 χ σ τ) (pc2 := 12) kX7_144 (c_X7_isNoHand l σ τ χ a1) rfl rfl rfl rfl rfl rfl rfl rfl rfl ?_
    by_cases c2 : (X7_isNoHand σ a1) = true
    · rw [if_pos c2] at h
      refine hV.run 1 [1] (ws' := wX7 7 18 χ σ τ) (pc' := 31) (ls' := [(0, .ref 0), (1, .int a1), (2, .int a2)]) (st' := []) (ps := [¬ (b2i (X7_isNoHand σ a1)) = 0]) rfl ⟨(b2i_t c2), trivial⟩ ?_
      refine hV.pick [] (ls' := []) rfl ?_
      exact p_X7_of_J31 hV hT n σ χ τ res hP hX h
    · rw [if_neg c2] at h
      by_cases c3 : a2 < 0
      · rw [if_pos c3] at h
        refine hV.run 3 [0, 1] (ws' := wX7 7 18 χ σ τ) (pc' := 31) (ls' := [(0, .ref 0), (1, .int a1), (2, .int a2)]) (st' := []) (ps := [(b2i (X7_isNoHand σ a1)) = 0, a2 < 0]) rfl ⟨(b2i_f c2), c3, trivial⟩ ?_
        refine hV.pick [] (ls' := []) rfl ?_
        exact p_X7_of_J31 hV hT n σ χ τ res hP hX h
      · rw [if_neg c3] at h
        by_cases c4 : a2 = 7
        · rw [if_pos c4] at h
          refine hV.run 6 [0, 0, 1] (ws' := wX7 7 18 χ σ τ) (pc' := 31) (ls' := [(0, .ref 0), (1, .int a1), (2, .int a2)]) (st' := []) (ps := [(b2i (X7_isNoHand σ a1)) = 0, ¬ a2 < 0, a2 = 7]) rfl ⟨(b2i_f c2), c3, c4, trivial⟩ ?_
          refine hV.pick [] (ls' := []) rfl ?_
          exact p_X7_of_J31 hV hT n σ χ τ res hP hX h
        · rw [if_neg c4] at h
          by_cases c5 : a2 ≤ 11
          · rw [if_pos c5] at h
            refine hV.run 13 [0, 0, 0, 1] (ws' := wX7 7 18 χ σ τ) (pc' := 47) (ls' := [(0, .ref 0), (1, .int a1), (2, .int a2)]) (st' := [.int a2, .int a1, .ref 46]) (ps := [(b2i (X7_isNoHand σ a1)) = 0, ¬ a2 < 0, ¬ a2 = 7, a2 ≤ 11]) rfl ⟨(b2i_f c2), c3, c4, c5, trivial⟩ ?_
            by_cases g6 : ¬ (χ 47) = 18
            · rw [if_pos g6] at h; cases h
            rw [if_neg g6] at h
            have e7 := am_updN_id (Classical.not_not.mp g6)
            refine Eq.mp (congrArg (fun z => V (wX7 7 18 z σ τ) 47 [(0, .ref 0), (1, .int a1), (2, .int a2)] [.int a2, .int a1, .ref 46]) e7) ?_
            obtain ⟨q8, hq8, h⟩ := am_bind h
            refine hV.cGi 46 2 18 (as := [.int a1, .int a2]) (rest := []) (st := [.int a2, .int a1, .ref 46]) (ws2 := wX7 7 18 (updN χ 47 18) σ τ) (pc2 := 50) kX7_175 (c_X0_tellHand l n (am_sg σ 46) (am_sg τ 46) a1 a2 q8 hq8) rfl rfl rfl rfl rfl rfl (am_gnd1 _) rfl rfl rfl rfl rfl rfl rfl rfl ?_
            refine Eq.mp (congrArg (fun z => V (wX7 7 18 z σ τ) 50 [(0, .ref 0), (1, .int a1), (2, .int a2)] [.int q8]) e7.symm) ?_
            cases h
            exact hV.ri rfl rfl rfl (hP _ rfl)
          · rw [if_neg c5] at h
            refine hV.run 9 [0, 0, 0, 0] (ws' := wX7 7 18 χ σ τ) (pc' := 31) (ls' := [(0, .ref 0), (1, .int a1), (2, .int a2)]) (st' := []) (ps := [(b2i (X7_isNoHand σ a1)) = 0, ¬ a2 < 0, ¬ a2 = 7, ¬ a2 ≤ 11]) rfl ⟨(b2i_f c2), c3, c4, c5, trivial⟩ ?_
            refine hV.pick [] (ls' := []) rfl ?_
            exact p_X7_of_J31 hV hT n σ χ τ res hP hX h

def X7_ring_J23 (σ : am_M) : Option (Option Int32) := some none
set_option maxRecDepth 100000 in
set_option maxHeartbeats 4000000 in
theorem p_X7_ring_J23 {l : Launch} {Post : Option Value → am_W → Prop} {PX : am_W → Prop} {V : am_VT} (hV : am_B l RX7 false 6 (am_cdT' tX7_ring) (am_rfL rfX7) (some .int) Post 74 V) (hT : am_TX (am_cdT' tX7_ring) 104 108 74 PX V) (σ : am_M) (τ : Nat → Int64) (χ : Nat → Nat) (res : (Option Int32)) (hP : ∀ v, res = some v → Post (some (.int v)) (wX7 7 18 χ σ τ)) (hX : res = none → PX (wX7 7 18 χ σ τ)) (h : X7_ring_J23 σ = some res) : V (wX7 7 18 χ σ τ) 23 [] [] := by
  unfold X7_ring_J23 at h
  cases h
  exact hT 181 _ _ _ _ _ _ _ _ _ rfl rfl rfl rfl rfl (List.mem_of_getElem? (i := 11) rfl) rfl (hX rfl)
def X7_ring (σ : am_M) (a1 : Int32) : Option (Option Int32) := if (σ 0 9) = 0 then (X7_ring_J23 σ) else (if a1 < (-1) then (X7_ring_J23 σ) else (if a1 < (σ 46 6) then (if a1 = (-1) then (some (some (σ 46 6))) else (some (some (jat 8 (σ 59) a1)))) else (X7_ring_J23 σ)))
set_option maxRecDepth 100000 in
set_option maxHeartbeats 4000000 in
theorem c_X7_ring (l : Launch) (hst : l.stackTraces = false) (σ : am_M) (τ : Nat → Int64) (χ : Nat → Nat) (a1 : Int32) (res : (Option Int32)) (h : X7_ring σ a1 = some res) : am_CnX l yX7_ring cX7_ring 2 (some .int) 6 [.ref 0, .int a1] (wX7 7 18 χ σ τ) (fun (r : Option Value) (w : am_W) => ∃ v, res = some v ∧ r = some (.int v) ∧ w = (wX7 7 18 χ σ τ)) (fun (w : am_W) => res = none ∧ w = (wX7 7 18 χ σ τ)) "java/util/NoSuchElementException" := by
  refine am_metXn (n0 := 74) (cd := am_cdT' tX7_ring) (rf := am_rfL rfX7) hst am_exN rfl rfl (by decide +kernel) rfl dX7_ring rfX7_ok (Nat.le_of_ble_eq_true rfl) ?_
  intro V hV hT
  have hT : am_TX (am_cdT' tX7_ring) 104 108 74 (fun (w : am_W) => res = none ∧ w = (wX7 7 18 χ σ τ)) V := hT
  have hP : ∀ v, res = some v → (fun (r : Option Value) (w : am_W) => ∃ v, res = some v ∧ r = some (.int v) ∧ w = (wX7 7 18 χ σ τ)) (some (.int v)) (wX7 7 18 χ σ τ) := fun v e => ⟨v, e, rfl, rfl⟩
  have hX : res = none → (fun (w : am_W) => res = none ∧ w = (wX7 7 18 χ σ τ)) (wX7 7 18 χ σ τ) := fun e => ⟨e, rfl⟩
  show V (wX7 7 18 χ σ τ) 0 [(0, .ref 0), (1, .int a1)] []
  unfold X7_ring at h
  by_cases c1 : (σ 0 9) = 0
  · rw [if_pos c1] at h
    refine hV.run 3 [1] (ws' := wX7 7 18 χ σ τ) (pc' := 23) (ls' := [(0, .ref 0), (1, .int a1)]) (st' := []) (ps := [(σ 0 9) = 0]) rfl ⟨c1, trivial⟩ ?_
    refine hV.pick [] (ls' := []) rfl ?_
    exact p_X7_ring_J23 hV hT σ τ χ res hP hX h
  · rw [if_neg c1] at h
    by_cases c2 : a1 < (-1)
    · rw [if_pos c2] at h
      refine hV.run 6 [0, 1] (ws' := wX7 7 18 χ σ τ) (pc' := 23) (ls' := [(0, .ref 0), (1, .int a1)]) (st' := []) (ps := [¬ (σ 0 9) = 0, a1 < (-1)]) rfl ⟨c1, c2, trivial⟩ ?_
      refine hV.pick [] (ls' := []) rfl ?_
      exact p_X7_ring_J23 hV hT σ τ χ res hP hX h
    · rw [if_neg c2] at h
      by_cases c3 : a1 < (σ 46 6)
      · rw [if_pos c3] at h
        by_cases c4 : a1 = (-1)
        · rw [if_pos c4] at h
          refine hV.run 18 [0, 0, 1, 0] (ws' := wX7 7 18 χ σ τ) (pc' := 59) (ls' := [(0, .ref 0), (1, .int a1)]) (st' := [.int (σ 46 6)]) (ps := [¬ (σ 0 9) = 0, ¬ a1 < (-1), a1 < (σ 46 6), a1 = (-1)]) rfl ⟨c1, c2, c3, c4, trivial⟩ ?_
          cases h
          exact hV.ri rfl rfl rfl (hP _ rfl)
        · rw [if_neg c4] at h
          refine hV.run 18 [0, 0, 1, 1] (ws' := wX7 7 18 χ σ τ) (pc' := 56) (ls' := [(0, .ref 0), (1, .int a1)]) (st' := [.int a1, .ref 59]) (ps := [¬ (σ 0 9) = 0, ¬ a1 < (-1), a1 < (σ 46 6), ¬ a1 = (-1)]) rfl ⟨c1, c2, c3, c4, trivial⟩ ?_
          refine hV.cSi (as := [.ref 0, .int a1]) (js := [59]) (rest := []) (st := [.int a1, .ref 59]) (ws2 := wX7 7 18 χ σ τ) (pc2 := 59) kX7_187 (c_at l 1 8 (by decide) (σ 59) a1) rfl rfl rfl rfl rfl rfl rfl rfl rfl rfl ?_
          cases h
          exact hV.ri rfl rfl rfl (hP _ rfl)
      · rw [if_neg c3] at h
        refine hV.run 11 [0, 0, 0] (ws' := wX7 7 18 χ σ τ) (pc' := 23) (ls' := [(0, .ref 0), (1, .int a1)]) (st' := []) (ps := [¬ (σ 0 9) = 0, ¬ a1 < (-1), ¬ a1 < (σ 46 6)]) rfl ⟨c1, c2, c3, trivial⟩ ?_
        refine hV.pick [] (ls' := []) rfl ?_
        exact p_X7_ring_J23 hV hT σ τ χ res hP hX h

def X7_chose_J23 (σ : am_M) : Option (Option Int32) := some none
set_option maxRecDepth 100000 in
set_option maxHeartbeats 4000000 in
theorem p_X7_chose_J23 {l : Launch} {Post : Option Value → am_W → Prop} {PX : am_W → Prop} {V : am_VT} (hV : am_B l RX7 false 6 (am_cdT' tX7_chose) (am_rfL rfX7) (some .int) Post 74 V) (hT : am_TX (am_cdT' tX7_chose) 104 108 74 PX V) (σ : am_M) (τ : Nat → Int64) (χ : Nat → Nat) (res : (Option Int32)) (hP : ∀ v, res = some v → Post (some (.int v)) (wX7 7 18 χ σ τ)) (hX : res = none → PX (wX7 7 18 χ σ τ)) (h : X7_chose_J23 σ = some res) : V (wX7 7 18 χ σ τ) 23 [] [] := by
  unfold X7_chose_J23 at h
  cases h
  exact hT 194 _ _ _ _ _ _ _ _ _ rfl rfl rfl rfl rfl (List.mem_of_getElem? (i := 12) rfl) rfl (hX rfl)
def X7_chose (σ : am_M) (a1 : Int32) : Option (Option Int32) := if (σ 0 9) = 0 then (X7_chose_J23 σ) else (if a1 < (-1) then (X7_chose_J23 σ) else (if a1 < (σ 46 4) then (if a1 = (-1) then (some (some (σ 46 4))) else (some (some (jat 320 (σ 58) a1)))) else (X7_chose_J23 σ)))
set_option maxRecDepth 100000 in
set_option maxHeartbeats 4000000 in
theorem c_X7_chose (l : Launch) (hst : l.stackTraces = false) (σ : am_M) (τ : Nat → Int64) (χ : Nat → Nat) (a1 : Int32) (res : (Option Int32)) (h : X7_chose σ a1 = some res) : am_CnX l yX7_chose cX7_chose 2 (some .int) 6 [.ref 0, .int a1] (wX7 7 18 χ σ τ) (fun (r : Option Value) (w : am_W) => ∃ v, res = some v ∧ r = some (.int v) ∧ w = (wX7 7 18 χ σ τ)) (fun (w : am_W) => res = none ∧ w = (wX7 7 18 χ σ τ)) "java/util/NoSuchElementException" := by
  refine am_metXn (n0 := 74) (cd := am_cdT' tX7_chose) (rf := am_rfL rfX7) hst am_exN rfl rfl (by decide +kernel) rfl dX7_chose rfX7_ok (Nat.le_of_ble_eq_true rfl) ?_
  intro V hV hT
  have hT : am_TX (am_cdT' tX7_chose) 104 108 74 (fun (w : am_W) => res = none ∧ w = (wX7 7 18 χ σ τ)) V := hT
  have hP : ∀ v, res = some v → (fun (r : Option Value) (w : am_W) => ∃ v, res = some v ∧ r = some (.int v) ∧ w = (wX7 7 18 χ σ τ)) (some (.int v)) (wX7 7 18 χ σ τ) := fun v e => ⟨v, e, rfl, rfl⟩
  have hX : res = none → (fun (w : am_W) => res = none ∧ w = (wX7 7 18 χ σ τ)) (wX7 7 18 χ σ τ) := fun e => ⟨e, rfl⟩
  show V (wX7 7 18 χ σ τ) 0 [(0, .ref 0), (1, .int a1)] []
  unfold X7_chose at h
  by_cases c1 : (σ 0 9) = 0
  · rw [if_pos c1] at h
    refine hV.run 3 [1] (ws' := wX7 7 18 χ σ τ) (pc' := 23) (ls' := [(0, .ref 0), (1, .int a1)]) (st' := []) (ps := [(σ 0 9) = 0]) rfl ⟨c1, trivial⟩ ?_
    refine hV.pick [] (ls' := []) rfl ?_
    exact p_X7_chose_J23 hV hT σ τ χ res hP hX h
  · rw [if_neg c1] at h
    by_cases c2 : a1 < (-1)
    · rw [if_pos c2] at h
      refine hV.run 6 [0, 1] (ws' := wX7 7 18 χ σ τ) (pc' := 23) (ls' := [(0, .ref 0), (1, .int a1)]) (st' := []) (ps := [¬ (σ 0 9) = 0, a1 < (-1)]) rfl ⟨c1, c2, trivial⟩ ?_
      refine hV.pick [] (ls' := []) rfl ?_
      exact p_X7_chose_J23 hV hT σ τ χ res hP hX h
    · rw [if_neg c2] at h
      by_cases c3 : a1 < (σ 46 4)
      · rw [if_pos c3] at h
        by_cases c4 : a1 = (-1)
        · rw [if_pos c4] at h
          refine hV.run 18 [0, 0, 1, 0] (ws' := wX7 7 18 χ σ τ) (pc' := 59) (ls' := [(0, .ref 0), (1, .int a1)]) (st' := [.int (σ 46 4)]) (ps := [¬ (σ 0 9) = 0, ¬ a1 < (-1), a1 < (σ 46 4), a1 = (-1)]) rfl ⟨c1, c2, c3, c4, trivial⟩ ?_
          cases h
          exact hV.ri rfl rfl rfl (hP _ rfl)
        · rw [if_neg c4] at h
          refine hV.run 18 [0, 0, 1, 1] (ws' := wX7 7 18 χ σ τ) (pc' := 56) (ls' := [(0, .ref 0), (1, .int a1)]) (st' := [.int a1, .ref 58]) (ps := [¬ (σ 0 9) = 0, ¬ a1 < (-1), a1 < (σ 46 4), ¬ a1 = (-1)]) rfl ⟨c1, c2, c3, c4, trivial⟩ ?_
          refine hV.cSi (as := [.ref 0, .int a1]) (js := [58]) (rest := []) (st := [.int a1, .ref 58]) (ws2 := wX7 7 18 χ σ τ) (pc2 := 59) kX7_187 (c_at l 1 320 (by decide) (σ 58) a1) rfl rfl rfl rfl rfl rfl rfl rfl rfl rfl ?_
          cases h
          exact hV.ri rfl rfl rfl (hP _ rfl)
      · rw [if_neg c3] at h
        refine hV.run 11 [0, 0, 0] (ws' := wX7 7 18 χ σ τ) (pc' := 23) (ls' := [(0, .ref 0), (1, .int a1)]) (st' := []) (ps := [¬ (σ 0 9) = 0, ¬ a1 < (-1), ¬ a1 < (σ 46 4)]) rfl ⟨c1, c2, c3, trivial⟩ ?_
        refine hV.pick [] (ls' := []) rfl ?_
        exact p_X7_chose_J23 hV hT σ τ χ res hP hX h

def X7_least_B32 (n : Nat) (kont32 : am_M → (Nat → Int64) → (Nat → Nat) → Int32 → Int32 → Option (Option Int32 × am_M × (Nat → Int64) × (Nat → Nat))) (σ : am_M) (τ : Nat → Int64) (χ : Nat → Nat) (l1 : Int32) (l2 : Int32) : Option (Option Int32 × am_M × (Nat → Int64) × (Nat → Nat)) := if 8 < l2 then (some (some (-1), σ, τ, χ)) else (X0_run n (am_sg σ 60) (am_sg τ 60) l2 l1 (σ 0 4) (σ 0 5) 0 0).bind (fun q2 => if q2.1 = 2 then (some (some l2, am_pg σ 60 2 q2.2.1, am_pg τ 60 2 q2.2.2, updN χ 61 18)) else (kont32 (am_pg σ 60 2 q2.2.1) (am_pg τ 60 2 q2.2.2) (updN χ 61 18) l1 (l2 + 1)))
def X7_least_L32 (n : Nat) : Nat → am_M → (Nat → Int64) → (Nat → Nat) → Int32 → Int32 → Option (Option Int32 × am_M × (Nat → Int64) × (Nat → Nat))
 | 0 => fun _ _ _ _ _ => none
 | k + 1 => fun σ τ χ l1 l2 => X7_least_B32 n (X7_least_L32 n k) σ τ χ l1 l2
set_option maxRecDepth 100000 in
set_option maxHeartbeats 4000000 in
theorem p_X7_least_B32 {l : Launch} {Post : Option Value → am_W → Prop} {PX : am_W → Prop} {V : am_VT} (hV : am_B l RX7 false 8 (am_cdT' tX7_least) (am_rfL rfX7) (some .int) Post 74 V) (hT : am_TX (am_cdT' tX7_least) 57 61 74 PX V) (n : Nat) (res : (Option Int32 × am_M × (Nat → Int64) × (Nat → Nat))) (hP : ∀ v, res.1 = some v → Post (some (.int v)) (wX7 7 18 res.2.2.2 res.2.1 res.2.2.1)) (hX : res.1 = none → PX (wX7 7 18 res.2.2.2 res.2.1 res.2.2.1)) (kont32 : am_M → (Nat → Int64) → (Nat → Nat) → Int32 → Int32 → Option (Option Int32 × am_M × (Nat → Int64) × (Nat → Nat))) (hk32 : ∀ (σ : am_M) (τ : Nat → Int64) (χ : Nat → Nat) (l1 : Int32) (l2 : Int32), kont32 σ τ χ l1 l2 = some res → V (wX7 7 18 χ σ τ) 32 [(0, .ref 0), (1, .int l1), (2, .int l2)] []) (σ : am_M) (τ : Nat → Int64) (χ : Nat → Nat) (l1 : Int32) (l2 : Int32) (h : X7_least_B32 n kont32 σ τ χ l1 l2 = some res) : V (wX7 7 18 χ σ τ) 32 [(0, .ref 0), (1, .int l1), (2, .int l2)] [] := by
  unfold X7_least_B32 at h
  by_cases c1 : 8 < l2
  · rw [if_pos c1] at h
    refine hV.run 4 [1] (ws' := wX7 7 18 χ σ τ) (pc' := 74) (ls' := [(0, .ref 0), (1, .int l1), (2, .int l2)]) (st' := [.int (-1)]) (ps := [8 < l2]) rfl ⟨c1, trivial⟩ ?_
    cases h
    exact hV.ri rfl rfl rfl (hP _ rfl)
  · rw [if_neg c1] at h
    refine hV.run 15 [0] (ws' := wX7 7 18 χ σ τ) (pc' := 58) (ls' := [(0, .ref 0), (1, .int l1), (2, .int l2)]) (st' := [.long 0, .int 0, .int (σ 0 5), .int (σ 0 4), .int l1, .int l2, .ref 18, .ref 60]) (ps := [¬ 8 < l2]) rfl ⟨c1, trivial⟩ ?_
    obtain ⟨q2, hq2, h⟩ := am_bind h
    refine hV.cGi 60 2 (χ 61) (as := [.ref 12, .int l2, .int l1, .int (σ 0 4), .int (σ 0 5), .int 0, .long 0]) (rest := []) (st := [.long 0, .int 0, .int (σ 0 5), .int (σ 0 4), .int l1, .int l2, .ref 18, .ref 60]) (ws2 := wX7 7 18 (updN χ 61 18) (am_pg σ 60 2 q2.2.1) (am_pg τ 60 2 q2.2.2)) (pc2 := 61) kX7_169 (c_X0_run l n (am_sg σ 60) (am_sg τ 60) l2 l1 (σ 0 4) (σ 0 5) 0 0 q2 hq2) rfl rfl rfl rfl rfl rfl (am_gnd2 _) rfl rfl rfl rfl rfl rfl rfl rfl ?_
    by_cases c3 : q2.1 = 2
    · rw [if_pos c3] at h
      refine hV.run 3 [0] (ws' := wX7 7 18 (updN χ 61 18) (am_pg σ 60 2 q2.2.1) (am_pg τ 60 2 q2.2.2)) (pc' := 66) (ls' := [(0, .ref 0), (1, .int l1), (2, .int l2)]) (st' := [.int l2]) (ps := [q2.1 = 2]) rfl ⟨c3, trivial⟩ ?_
      cases h
      exact hV.ri rfl rfl rfl (hP _ rfl)
    · rw [if_neg c3] at h
      refine hV.run 4 [1] (ws' := wX7 7 18 (updN χ 61 18) (am_pg σ 60 2 q2.2.1) (am_pg τ 60 2 q2.2.2)) (pc' := 32) (ls' := [(2, .int (l2 + 1)), (0, .ref 0), (1, .int l1)]) (st' := []) (ps := [¬ q2.1 = 2]) rfl ⟨c3, trivial⟩ ?_
      refine hV.pick [1, 2, 0] (ls' := [(0, .ref 0), (1, .int l1), (2, .int (l2 + 1))]) rfl ?_
      exact hk32 (am_pg σ 60 2 q2.2.1) (am_pg τ 60 2 q2.2.2) (updN χ 61 18) l1 (l2 + 1) h
theorem p_X7_least_L32 {l : Launch} {Post : Option Value → am_W → Prop} {PX : am_W → Prop} {V : am_VT} (hV : am_B l RX7 false 8 (am_cdT' tX7_least) (am_rfL rfX7) (some .int) Post 74 V) (hT : am_TX (am_cdT' tX7_least) 57 61 74 PX V) (n : Nat) (res : (Option Int32 × am_M × (Nat → Int64) × (Nat → Nat))) (hP : ∀ v, res.1 = some v → Post (some (.int v)) (wX7 7 18 res.2.2.2 res.2.1 res.2.2.1)) (hX : res.1 = none → PX (wX7 7 18 res.2.2.2 res.2.1 res.2.2.1)) : ∀ (k : Nat) (σ : am_M) (τ : Nat → Int64) (χ : Nat → Nat) (l1 : Int32) (l2 : Int32) (h : X7_least_L32 n k σ τ χ l1 l2 = some res), V (wX7 7 18 χ σ τ) 32 [(0, .ref 0), (1, .int l1), (2, .int l2)] [] := by
  intro k
  induction k with
  | zero => intro σ τ χ l1 l2 h; cases h
  | succ k ih => intro σ τ χ l1 l2 h; exact p_X7_least_B32 hV hT n res hP hX _ ih σ τ χ l1 l2 h
def X7_least (n : Nat) (σ : am_M) (τ : Nat → Int64) (χ : Nat → Nat) (a1 : Int32) : Option (Option Int32 × am_M × (Nat → Int64) × (Nat → Nat)) := if (X7_isNoRoom a1) = true then (some (none, σ, τ, χ)) else (if (σ 18 8) ≤ 0 then (X7_least_L32 n n σ τ χ a1 2) else (some (some (-2), σ, τ, χ)))
set_option maxRecDepth 100000 in
set_option maxHeartbeats 4000000 in
theorem c_X7_least (l : Launch) (hst : l.stackTraces = false) (n : Nat) (σ : am_M) (τ : Nat → Int64) (χ : Nat → Nat) (a1 : Int32) (res : (Option Int32 × am_M × (Nat → Int64) × (Nat → Nat))) (h : X7_least n σ τ χ a1 = some res) : am_CnX l yX7_least cX7_least 3 (some .int) 8 [.ref 0, .int a1] (wX7 7 18 χ σ τ) (fun (r : Option Value) (w : am_W) => ∃ v, res.1 = some v ∧ r = some (.int v) ∧ w = (wX7 7 18 res.2.2.2 res.2.1 res.2.2.1)) (fun (w : am_W) => res.1 = none ∧ w = (wX7 7 18 res.2.2.2 res.2.1 res.2.2.1)) "java/lang/IllegalArgumentException" := by
  refine am_metXn (n0 := 74) (cd := am_cdT' tX7_least) (rf := am_rfL rfX7) hst am_exI rfl rfl (by decide +kernel) rfl dX7_least rfX7_ok (Nat.le_of_ble_eq_true rfl) ?_
  intro V hV hT
  have hT : am_TX (am_cdT' tX7_least) 57 61 74 (fun (w : am_W) => res.1 = none ∧ w = (wX7 7 18 res.2.2.2 res.2.1 res.2.2.1)) V := hT
  have hP : ∀ v, res.1 = some v → (fun (r : Option Value) (w : am_W) => ∃ v, res.1 = some v ∧ r = some (.int v) ∧ w = (wX7 7 18 res.2.2.2 res.2.1 res.2.2.1)) (some (.int v)) (wX7 7 18 res.2.2.2 res.2.1 res.2.2.1) := fun v e => ⟨v, e, rfl, rfl⟩
  have hX : res.1 = none → (fun (w : am_W) => res.1 = none ∧ w = (wX7 7 18 res.2.2.2 res.2.1 res.2.2.1)) (wX7 7 18 res.2.2.2 res.2.1 res.2.2.1) := fun e => ⟨e, rfl⟩
  show V (wX7 7 18 χ σ τ) 0 [(0, .ref 0), (1, .int a1)] []
  unfold X7_least at h
  refine hV.run 1 [] (ws' := wX7 7 18 χ σ τ) (pc' := 1) (ls' := [(0, .ref 0), (1, .int a1)]) (st' := [.int a1]) (ps := []) rfl trivial ?_
  refine hV.cSi (as := [.int a1]) (js := []) (rest := []) (st := [.int a1]) (ws2 := wX7 7 18 χ σ τ) (pc2 := 4) kX7_85 (c_X7_isNoRoom l a1) rfl rfl rfl rfl rfl rfl rfl rfl rfl rfl ?_
  by_cases c1 : (X7_isNoRoom a1) = true
  · rw [if_pos c1] at h
    refine hV.run 1 [0] (ws' := wX7 7 18 χ σ τ) (pc' := 7) (ls' := [(0, .ref 0), (1, .int a1)]) (st' := []) (ps := [¬ (b2i (X7_isNoRoom a1)) = 0]) rfl ⟨(b2i_t c1), trivial⟩ ?_
    cases h
    exact hT 199 _ _ _ _ _ _ _ _ _ rfl rfl rfl rfl rfl (List.mem_of_getElem? (i := 13) rfl) rfl (hX rfl)
  · rw [if_neg c1] at h
    by_cases c2 : (σ 18 8) ≤ 0
    · rw [if_pos c2] at h
      refine hV.run 7 [1, 1] (ws' := wX7 7 18 χ σ τ) (pc' := 32) (ls' := [(2, .int 2), (0, .ref 0), (1, .int a1)]) (st' := []) (ps := [(b2i (X7_isNoRoom a1)) = 0, (σ 18 8) ≤ 0]) rfl ⟨(b2i_f c1), c2, trivial⟩ ?_
      refine hV.pick [1, 2, 0] (ls' := [(0, .ref 0), (1, .int a1), (2, .int 2)]) rfl ?_
      exact p_X7_least_L32 hV hT n res hP hX n σ τ χ a1 2 h
    · rw [if_neg c2] at h
      refine hV.run 6 [1, 0] (ws' := wX7 7 18 χ σ τ) (pc' := 29) (ls' := [(0, .ref 0), (1, .int a1)]) (st' := [.int (-2)]) (ps := [(b2i (X7_isNoRoom a1)) = 0, ¬ (σ 18 8) ≤ 0]) rfl ⟨(b2i_f c1), c2, trivial⟩ ?_
      cases h
      exact hV.ri rfl rfl rfl (hP _ rfl)

