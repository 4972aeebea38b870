def L_c7 (n L : Nat) (xs : Nat → Int32) (kont : (Nat → Nat) → am_M → (Nat → Int64) → (Nat → Int64) → am_M → Int32 → Option Bool) (χ : Nat → Nat) (σ : am_M) (τ : Nat → Int64) (o : Nat → Int64) (ρ : am_M) (i : Int32) : Option Bool := if (i + 1) < 0 ∨ L ≤ (i + 1).toNatClampNeg then none else (X7_endings n σ τ χ (xs (i + 1).toNatClampNeg)).bind (fun q2 => if ¬ am_chib q2.2.2.2 = true then none else (X8_endings n ρ (xs (i + 1).toNatClampNeg)).bind (fun q4 => if (X8_thrown q4.2) = (hR q2.1) then (if (hR q2.1) = 0 then (if (lg_cmp ((hO id o q2.1) (0 : Int32).toNatClampNeg) q4.1.toInt64) = 0 then (kont q2.2.2.2 q2.2.1 q2.2.2.1 (hO id o q2.1) q4.2 (i + 6)) else (some false)) else (kont q2.2.2.2 q2.2.1 q2.2.2.1 (hO id o q2.1) q4.2 (i + 6))) else (some false)))
set_option maxRecDepth 100000 in
set_option maxHeartbeats 4000000 in
theorem p_L_c7 {l : Launch} (hst : l.stackTraces = false) {L : Nat} {xs : Nat → Int32} {V : Nat → Nat → am_VT} (hV : am_BL l (am_cdT' tL_law) L xs V) (n : Nat) {c s : Nat} (hb : c + 1 ≤ room_1.cells ∧ s + 6 ≤ room_1.slots) (kont : (Nat → Nat) → am_M → (Nat → Int64) → (Nat → Int64) → am_M → Int32 → Option Bool) (hk : ∀ (χ : Nat → Nat) (σ : am_M) (τ : Nat → Int64) (o : Nat → Int64) (ρ : am_M) (i : Int32) (c' s' : Nat), c' ≤ c + 1 → s' ≤ s + 6 → am_chi χ → kont χ σ τ o ρ i = some true → V c' s' (wL 7 18 χ σ τ o ρ) 23 [(0, .retAddr 99), (1, .ref 0), (2, .ref 75), (3, .ref 74), (4, .int i)] []) (χ : Nat → Nat) (σ : am_M) (τ : Nat → Int64) (o : Nat → Int64) (ρ : am_M) (i : Int32) (hχ : am_chi χ) (h : L_c7 n L xs kont χ σ τ o ρ i = some true) : V c s (wL 7 18 χ σ τ o ρ) 460 [(0, .retAddr 99), (1, .ref 0), (2, .ref 75), (3, .ref 74), (4, .int i)] [] := by
  unfold L_c7 at h
  have hb0 : c ≤ room_1.cells ∧ s ≤ room_1.slots := ⟨by omega, by omega⟩
  have hb1 : c + 1 ≤ room_1.cells ∧ s + 6 ≤ room_1.slots := hb
  by_cases g1 : (i + 1) < 0 ∨ L ≤ (i + 1).toNatClampNeg
  · rw [if_pos g1] at h; cases h
  rw [if_neg g1] at h
  refine hV.run 5 [] (ws' := wL 7 18 χ σ τ o ρ) (pc' := 466) (ls' := [(0, .retAddr 99), (1, .ref 0), (2, .ref 75), (3, .ref 74), (4, .int i)]) (st' := [.int (i + 1), .retAddr 99, .ref 0]) (ps := []) rfl trivial ?_
  refine hV.sd g1 rfl rfl ?_
  refine hV.run 1 [] (ws' := wL 7 18 χ σ τ o ρ) (pc' := 468) (ls' := [(0, .retAddr 99), (1, .ref 0), (2, .ref 75), (3, .ref 74), (4, .int i)]) (st' := [.ref 74, .int (xs (i + 1).toNatClampNeg), .ref 0]) (ps := []) rfl trivial ?_
  obtain ⟨q2, hq2, h⟩ := am_bind h
  by_cases g3 : ¬ am_chib q2.2.2.2 = true
  · rw [if_pos g3] at h; cases h
  rw [if_neg g3] at h
  refine hV.cS (n := 3) (as := [.ref 0, .int (xs (i + 1).toNatClampNeg), .ref 74]) (rest := []) (st := [.ref 74, .int (xs (i + 1).toNatClampNeg), .ref 0]) (pc2 := 471) (c_L_endings l hst n σ τ χ o (xs (i + 1).toNatClampNeg) q2 hq2 hχ (am_chib_ok (Classical.not_not.mp g3))) (am_wd 1174 (by decide +kernel) rfl) (am_wd 174 (by decide +kernel) rfl) (am_wd 1173 (by decide +kernel) rfl) (am_wd 1172 (by decide +kernel) rfl) ⟨by decide +kernel, by decide +kernel, by decide +kernel⟩ rfl rfl rfl hb rfl (by decide) (by decide) hχ (am_chib_ok (Classical.not_not.mp g3)) rfl rfl rfl rfl ?_
  refine hV.run 6 [] (ws' := wL 7 18 q2.2.2.2 q2.2.1 q2.2.2.1 (hO id o q2.1) ρ) (pc' := 479) (ls' := [(5, .int (hR q2.1)), (0, .retAddr 99), (1, .ref 0), (2, .ref 75), (3, .ref 74), (4, .int i)]) (st' := [.int (i + 1), .retAddr 99, .ref 75]) (ps := []) rfl trivial ?_
  refine hV.sd g1 rfl rfl ?_
  obtain ⟨q4, hq4, h⟩ := am_bind h
  refine hV.cM (as := [.int (xs (i + 1).toNatClampNeg)]) (rest := []) (st := [.int (xs (i + 1).toNatClampNeg), .ref 75]) (pc2 := 483) kL_93 (am_wd 1853 (by decide +kernel) rfl) (c_X8_endings l n ρ (xs (i + 1).toNatClampNeg) q4 hq4) rfl rfl rfl rfl hb1 rfl rfl rfl rfl rfl ?_
  refine hV.run 2 [] (ws' := wL 7 18 q2.2.2.2 q2.2.1 q2.2.2.1 (hO id o q2.1) q4.2) (pc' := 486) (ls' := [(6, .int q4.1), (5, .int (hR q2.1)), (0, .retAddr 99), (1, .ref 0), (2, .ref 75), (3, .ref 74), (4, .int i)]) (st' := [.ref 75]) (ps := []) rfl trivial ?_
  refine hV.cM (as := []) (rest := []) (st := [.ref 75]) (pc2 := 489) kL_68 (am_wd 1559 (by decide +kernel) rfl) (c_X8_thrown l q4.2) rfl rfl rfl rfl hb1 rfl rfl rfl rfl rfl ?_
  by_cases c5 : (X8_thrown q4.2) = (hR q2.1)
  · rw [if_pos c5] at h
    by_cases c6 : (hR q2.1) = 0
    · rw [if_pos c6] at h
      by_cases c7 : (lg_cmp ((hO id o q2.1) (0 : Int32).toNatClampNeg) q4.1.toInt64) = 0
      · rw [if_pos c7] at h
        refine hV.run 14 [1, 0, 1] (ws' := wL 7 18 q2.2.2.2 q2.2.1 q2.2.2.1 (hO id o q2.1) q4.2) (pc' := 23) (ls' := [(4, .int (i + 6)), (6, .int q4.1), (5, .int (hR q2.1)), (0, .retAddr 99), (1, .ref 0), (2, .ref 75), (3, .ref 74)]) (st' := []) (ps := [(X8_thrown q4.2) = (hR q2.1), (hR q2.1) = 0, vp_in 0 1, (lg_cmp ((hO id o q2.1) (0 : Int32).toNatClampNeg) q4.1.toInt64) = 0]) rfl ⟨c5, c6, (am_inc (by decide)), c7, trivial⟩ ?_
        refine hV.pk [3, 4, 5, 6, 0] (ls' := [(0, .retAddr 99), (1, .ref 0), (2, .ref 75), (3, .ref 74), (4, .int (i + 6))]) rfl ?_
        exact hk q2.2.2.2 q2.2.1 q2.2.2.1 (hO id o q2.1) q4.2 (i + 6) _ _ (by omega) (by omega) (am_chib_ok (Classical.not_not.mp g3)) h
      · rw [if_neg c7] at h
        cases h
    · rw [if_neg c6] at h
      refine hV.run 7 [1, 1] (ws' := wL 7 18 q2.2.2.2 q2.2.1 q2.2.2.1 (hO id o q2.1) q4.2) (pc' := 23) (ls' := [(4, .int (i + 6)), (6, .int q4.1), (5, .int (hR q2.1)), (0, .retAddr 99), (1, .ref 0), (2, .ref 75), (3, .ref 74)]) (st' := []) (ps := [(X8_thrown q4.2) = (hR q2.1), ¬ (hR q2.1) = 0]) rfl ⟨c5, c6, trivial⟩ ?_
      refine hV.pk [3, 4, 5, 6, 0] (ls' := [(0, .retAddr 99), (1, .ref 0), (2, .ref 75), (3, .ref 74), (4, .int (i + 6))]) rfl ?_
      exact hk q2.2.2.2 q2.2.1 q2.2.2.1 (hO id o q2.1) q4.2 (i + 6) _ _ (by omega) (by omega) (am_chib_ok (Classical.not_not.mp g3)) h
  · rw [if_neg c5] at h
    cases h
def L_c8 (n L : Nat) (xs : Nat → Int32) (kont : (Nat → Nat) → am_M → (Nat → Int64) → (Nat → Int64) → am_M → Int32 → Option Bool) (χ : Nat → Nat) (σ : am_M) (τ : Nat → Int64) (o : Nat → Int64) (ρ : am_M) (i : Int32) : Option Bool := if (i + 1) < 0 ∨ L ≤ (i + 1).toNatClampNeg then none else (if (i + 2) < 0 ∨ L ≤ (i + 2).toNatClampNeg then none else (X7_ending n σ τ χ (xs (i + 1).toNatClampNeg) (xs (i + 2).toNatClampNeg)).bind (fun q3 => if ¬ am_chib q3.2.2.2 = true then none else (X8_ending n ρ (xs (i + 1).toNatClampNeg) (xs (i + 2).toNatClampNeg)).bind (fun q5 => if (X8_thrown q5.2) = (hR q3.1) then (if (hR q3.1) = 0 then (if (lg_cmp ((hO id o q3.1) (0 : Int32).toNatClampNeg) q5.1.toInt64) = 0 then (kont q3.2.2.2 q3.2.1 q3.2.2.1 (hO id o q3.1) q5.2 (i + 6)) else (some false)) else (kont q3.2.2.2 q3.2.1 q3.2.2.1 (hO id o q3.1) q5.2 (i + 6))) else (some false))))
set_option maxRecDepth 100000 in
set_option maxHeartbeats 4000000 in
theorem p_L_c8 {l : Launch} (hst : l.stackTraces = false) {L : Nat} {xs : Nat → Int32} {V : Nat → Nat → am_VT} (hV : am_BL l (am_cdT' tL_law) L xs V) (n : Nat) {c s : Nat} (hb : c + 1 ≤ room_1.cells ∧ s + 6 ≤ room_1.slots) (kont : (Nat → Nat) → am_M → (Nat → Int64) → (Nat → Int64) → am_M → Int32 → Option Bool) (hk : ∀ (χ : Nat → Nat) (σ : am_M) (τ : Nat → Int64) (o : Nat → Int64) (ρ : am_M) (i : Int32) (c' s' : Nat), c' ≤ c + 1 → s' ≤ s + 6 → am_chi χ → kont χ σ τ o ρ i = some true → V c' s' (wL 7 18 χ σ τ o ρ) 23 [(0, .retAddr 99), (1, .ref 0), (2, .ref 75), (3, .ref 74), (4, .int i)] []) (χ : Nat → Nat) (σ : am_M) (τ : Nat → Int64) (o : Nat → Int64) (ρ : am_M) (i : Int32) (hχ : am_chi χ) (h : L_c8 n L xs kont χ σ τ o ρ i = some true) : V c s (wL 7 18 χ σ τ o ρ) 516 [(0, .retAddr 99), (1, .ref 0), (2, .ref 75), (3, .ref 74), (4, .int i)] [] := by
  unfold L_c8 at h
  have hb0 : c ≤ room_1.cells ∧ s ≤ room_1.slots := ⟨by omega, by omega⟩
  have hb1 : c + 1 ≤ room_1.cells ∧ s + 6 ≤ room_1.slots := hb
  by_cases g1 : (i + 1) < 0 ∨ L ≤ (i + 1).toNatClampNeg
  · rw [if_pos g1] at h; cases h
  rw [if_neg g1] at h
  refine hV.run 5 [] (ws' := wL 7 18 χ σ τ o ρ) (pc' := 522) (ls' := [(0, .retAddr 99), (1, .ref 0), (2, .ref 75), (3, .ref 74), (4, .int i)]) (st' := [.int (i + 1), .retAddr 99, .ref 0]) (ps := []) rfl trivial ?_
  refine hV.sd g1 rfl rfl ?_
  by_cases g2 : (i + 2) < 0 ∨ L ≤ (i + 2).toNatClampNeg
  · rw [if_pos g2] at h; cases h
  rw [if_neg g2] at h
  refine hV.run 4 [] (ws' := wL 7 18 χ σ τ o ρ) (pc' := 528) (ls' := [(0, .retAddr 99), (1, .ref 0), (2, .ref 75), (3, .ref 74), (4, .int i)]) (st' := [.int (i + 2), .retAddr 99, .int (xs (i + 1).toNatClampNeg), .ref 0]) (ps := []) rfl trivial ?_
  refine hV.sd g2 rfl rfl ?_
  refine hV.run 1 [] (ws' := wL 7 18 χ σ τ o ρ) (pc' := 530) (ls' := [(0, .retAddr 99), (1, .ref 0), (2, .ref 75), (3, .ref 74), (4, .int i)]) (st' := [.ref 74, .int (xs (i + 2).toNatClampNeg), .int (xs (i + 1).toNatClampNeg), .ref 0]) (ps := []) rfl trivial ?_
  obtain ⟨q3, hq3, h⟩ := am_bind h
  by_cases g4 : ¬ am_chib q3.2.2.2 = true
  · rw [if_pos g4] at h; cases h
  rw [if_neg g4] at h
  refine hV.cS (n := 4) (as := [.ref 0, .int (xs (i + 1).toNatClampNeg), .int (xs (i + 2).toNatClampNeg), .ref 74]) (rest := []) (st := [.ref 74, .int (xs (i + 2).toNatClampNeg), .int (xs (i + 1).toNatClampNeg), .ref 0]) (pc2 := 533) (c_L_ending l hst n σ τ χ o (xs (i + 1).toNatClampNeg) (xs (i + 2).toNatClampNeg) q3 hq3 hχ (am_chib_ok (Classical.not_not.mp g4))) (am_wd 1186 (by decide +kernel) rfl) (am_wd 174 (by decide +kernel) rfl) (am_wd 1185 (by decide +kernel) rfl) (am_wd 1184 (by decide +kernel) rfl) ⟨by decide +kernel, by decide +kernel, by decide +kernel⟩ rfl rfl rfl hb rfl (by decide) (by decide) hχ (am_chib_ok (Classical.not_not.mp g4)) rfl rfl rfl rfl ?_
  refine hV.run 6 [] (ws' := wL 7 18 q3.2.2.2 q3.2.1 q3.2.2.1 (hO id o q3.1) ρ) (pc' := 541) (ls' := [(5, .int (hR q3.1)), (0, .retAddr 99), (1, .ref 0), (2, .ref 75), (3, .ref 74), (4, .int i)]) (st' := [.int (i + 1), .retAddr 99, .ref 75]) (ps := []) rfl trivial ?_
  refine hV.sd g1 rfl rfl ?_
  refine hV.run 4 [] (ws' := wL 7 18 q3.2.2.2 q3.2.1 q3.2.2.1 (hO id o q3.1) ρ) (pc' := 547) (ls' := [(5, .int (hR q3.1)), (0, .retAddr 99), (1, .ref 0), (2, .ref 75), (3, .ref 74), (4, .int i)]) (st' := [.int (i + 2), .retAddr 99, .int (xs (i + 1).toNatClampNeg), .ref 75]) (ps := []) rfl trivial ?_
  refine hV.sd g2 rfl rfl ?_
  obtain ⟨q5, hq5, h⟩ := am_bind h
  refine hV.cM (as := [.int (xs (i + 1).toNatClampNeg), .int (xs (i + 2).toNatClampNeg)]) (rest := []) (st := [.int (xs (i + 2).toNatClampNeg), .int (xs (i + 1).toNatClampNeg), .ref 75]) (pc2 := 551) kL_97 (am_wd 1857 (by decide +kernel) rfl) (c_X8_ending l n ρ (xs (i + 1).toNatClampNeg) (xs (i + 2).toNatClampNeg) q5 hq5) rfl rfl rfl rfl hb1 rfl rfl rfl rfl rfl ?_
  refine hV.run 2 [] (ws' := wL 7 18 q3.2.2.2 q3.2.1 q3.2.2.1 (hO id o q3.1) q5.2) (pc' := 554) (ls' := [(6, .int q5.1), (5, .int (hR q3.1)), (0, .retAddr 99), (1, .ref 0), (2, .ref 75), (3, .ref 74), (4, .int i)]) (st' := [.ref 75]) (ps := []) rfl trivial ?_
  refine hV.cM (as := []) (rest := []) (st := [.ref 75]) (pc2 := 557) kL_68 (am_wd 1559 (by decide +kernel) rfl) (c_X8_thrown l q5.2) rfl rfl rfl rfl hb1 rfl rfl rfl rfl rfl ?_
  by_cases c6 : (X8_thrown q5.2) = (hR q3.1)
  · rw [if_pos c6] at h
    by_cases c7 : (hR q3.1) = 0
    · rw [if_pos c7] at h
      by_cases c8 : (lg_cmp ((hO id o q3.1) (0 : Int32).toNatClampNeg) q5.1.toInt64) = 0
      · rw [if_pos c8] at h
        refine hV.run 14 [1, 0, 1] (ws' := wL 7 18 q3.2.2.2 q3.2.1 q3.2.2.1 (hO id o q3.1) q5.2) (pc' := 23) (ls' := [(4, .int (i + 6)), (6, .int q5.1), (5, .int (hR q3.1)), (0, .retAddr 99), (1, .ref 0), (2, .ref 75), (3, .ref 74)]) (st' := []) (ps := [(X8_thrown q5.2) = (hR q3.1), (hR q3.1) = 0, vp_in 0 1, (lg_cmp ((hO id o q3.1) (0 : Int32).toNatClampNeg) q5.1.toInt64) = 0]) rfl ⟨c6, c7, (am_inc (by decide)), c8, trivial⟩ ?_
        refine hV.pk [3, 4, 5, 6, 0] (ls' := [(0, .retAddr 99), (1, .ref 0), (2, .ref 75), (3, .ref 74), (4, .int (i + 6))]) rfl ?_
        exact hk q3.2.2.2 q3.2.1 q3.2.2.1 (hO id o q3.1) q5.2 (i + 6) _ _ (by omega) (by omega) (am_chib_ok (Classical.not_not.mp g4)) h
      · rw [if_neg c8] at h
        cases h
    · rw [if_neg c7] at h
      refine hV.run 7 [1, 1] (ws' := wL 7 18 q3.2.2.2 q3.2.1 q3.2.2.1 (hO id o q3.1) q5.2) (pc' := 23) (ls' := [(4, .int (i + 6)), (6, .int q5.1), (5, .int (hR q3.1)), (0, .retAddr 99), (1, .ref 0), (2, .ref 75), (3, .ref 74)]) (st' := []) (ps := [(X8_thrown q5.2) = (hR q3.1), ¬ (hR q3.1) = 0]) rfl ⟨c6, c7, trivial⟩ ?_
      refine hV.pk [3, 4, 5, 6, 0] (ls' := [(0, .retAddr 99), (1, .ref 0), (2, .ref 75), (3, .ref 74), (4, .int (i + 6))]) rfl ?_
      exact hk q3.2.2.2 q3.2.1 q3.2.2.1 (hO id o q3.1) q5.2 (i + 6) _ _ (by omega) (by omega) (am_chib_ok (Classical.not_not.mp g4)) h
  · rw [if_neg c6] at h
    cases h
def L_c9 (n L : Nat) (xs : Nat → Int32) (kont : (Nat → Nat) → am_M → (Nat → Int64) → (Nat → Int64) → am_M → Int32 → Option Bool) (χ : Nat → Nat) (σ : am_M) (τ : Nat → Int64) (o : Nat → Int64) (ρ : am_M) (i : Int32) : Option Bool := (X7_differs n σ τ χ).bind (fun q1 => if ¬ am_chib q1.2.2.2 = true then none else (X8_differs n ρ).bind (fun q3 => if (b2i q1.1) = (b2i q3.1) then (kont q1.2.2.2 q1.2.1 q1.2.2.1 o q3.2 (i + 6)) else (some false)))
set_option maxRecDepth 100000 in
set_option maxHeartbeats 4000000 in
theorem p_L_c9 {l : Launch} (hst : l.stackTraces = false) {L : Nat} {xs : Nat → Int32} {V : Nat → Nat → am_VT} (hV : am_BL l (am_cdT' tL_law) L xs V) (n : Nat) {c s : Nat} (hb : c + 1 ≤ room_1.cells ∧ s + 6 ≤ room_1.slots) (kont : (Nat → Nat) → am_M → (Nat → Int64) → (Nat → Int64) → am_M → Int32 → Option Bool) (hk : ∀ (χ : Nat → Nat) (σ : am_M) (τ : Nat → Int64) (o : Nat → Int64) (ρ : am_M) (i : Int32) (c' s' : Nat), c' ≤ c + 1 → s' ≤ s + 6 → am_chi χ → kont χ σ τ o ρ i = some true → V c' s' (wL 7 18 χ σ τ o ρ) 23 [(0, .retAddr 99), (1, .ref 0), (2, .ref 75), (3, .ref 74), (4, .int i)] []) (χ : Nat → Nat) (σ : am_M) (τ : Nat → Int64) (o : Nat → Int64) (ρ : am_M) (i : Int32) (hχ : am_chi χ) (h : L_c9 n L xs kont χ σ τ o ρ i = some true) : V c s (wL 7 18 χ σ τ o ρ) 584 [(0, .retAddr 99), (1, .ref 0), (2, .ref 75), (3, .ref 74), (4, .int i)] [] := by
  unfold L_c9 at h
  have hb0 : c ≤ room_1.cells ∧ s ≤ room_1.slots := ⟨by omega, by omega⟩
  have hb1 : c + 1 ≤ room_1.cells ∧ s + 6 ≤ room_1.slots := hb
  refine hV.run 1 [] (ws' := wL 7 18 χ σ τ o ρ) (pc' := 585) (ls' := [(0, .retAddr 99), (1, .ref 0), (2, .ref 75), (3, .ref 74), (4, .int i)]) (st' := [.ref 0]) (ps := []) rfl trivial ?_
  obtain ⟨q1, hq1, h⟩ := am_bind h
  by_cases g2 : ¬ am_chib q1.2.2.2 = true
  · rw [if_pos g2] at h; cases h
  rw [if_neg g2] at h
  refine hV.cH (as := []) (rest := []) (st := [.ref 0]) (pc2 := 588) kL_98 (am_wd 840 (by decide +kernel) rfl) (c_X7_differs l n σ τ χ q1 hq1) rfl rfl rfl rfl hb0 rfl hχ (am_chib_ok (Classical.not_not.mp g2)) rfl rfl rfl rfl ?_
  refine hV.run 1 [] (ws' := wL 7 18 q1.2.2.2 q1.2.1 q1.2.2.1 o ρ) (pc' := 589) (ls' := [(0, .retAddr 99), (1, .ref 0), (2, .ref 75), (3, .ref 74), (4, .int i)]) (st' := [.ref 75, .int (b2i q1.1)]) (ps := []) rfl trivial ?_
  obtain ⟨q3, hq3, h⟩ := am_bind h
  refine hV.cM (as := []) (rest := [.int (b2i q1.1)]) (st := [.ref 75, .int (b2i q1.1)]) (pc2 := 592) kL_102 (am_wd 1861 (by decide +kernel) rfl) (c_X8_differs l n ρ q3 hq3) rfl rfl rfl rfl hb0 rfl rfl rfl rfl rfl ?_
  by_cases c4 : (b2i q1.1) = (b2i q3.1)
  · rw [if_pos c4] at h
    refine hV.run 3 [1] (ws' := wL 7 18 q1.2.2.2 q1.2.1 q1.2.2.1 o q3.2) (pc' := 23) (ls' := [(4, .int (i + 6)), (0, .retAddr 99), (1, .ref 0), (2, .ref 75), (3, .ref 74)]) (st' := []) (ps := [(b2i q1.1) = (b2i q3.1)]) rfl ⟨c4, trivial⟩ ?_
    refine hV.pk [1, 2, 3, 4, 0] (ls' := [(0, .retAddr 99), (1, .ref 0), (2, .ref 75), (3, .ref 74), (4, .int (i + 6))]) rfl ?_
    exact hk q1.2.2.2 q1.2.1 q1.2.2.1 o q3.2 (i + 6) _ _ (by omega) (by omega) (am_chib_ok (Classical.not_not.mp g2)) h
  · rw [if_neg c4] at h
    cases h
def L_c10 (n L : Nat) (xs : Nat → Int32) (kont : (Nat → Nat) → am_M → (Nat → Int64) → (Nat → Int64) → am_M → Int32 → Option Bool) (χ : Nat → Nat) (σ : am_M) (τ : Nat → Int64) (o : Nat → Int64) (ρ : am_M) (i : Int32) : Option Bool := if (i + 1) < 0 ∨ L ≤ (i + 1).toNatClampNeg then none else (if (i + 2) < 0 ∨ L ≤ (i + 2).toNatClampNeg then none else (X7_could n σ τ χ (xs (i + 1).toNatClampNeg) (xs (i + 2).toNatClampNeg)).bind (fun q3 => if ¬ am_chib q3.2.2.2 = true then none else (X8_could n ρ (xs (i + 1).toNatClampNeg) (xs (i + 2).toNatClampNeg)).bind (fun q5 => if (X8_thrown q5.2) = (hR q3.1) then (if (hR q3.1) = 0 then (if (lg_cmp ((hO id o q3.1) (0 : Int32).toNatClampNeg) q5.1.toInt64) = 0 then (kont q3.2.2.2 q3.2.1 q3.2.2.1 (hO id o q3.1) q5.2 (i + 6)) else (some false)) else (kont q3.2.2.2 q3.2.1 q3.2.2.1 (hO id o q3.1) q5.2 (i + 6))) else (some false))))
set_option maxRecDepth 100000 in
set_option maxHeartbeats 4000000 in
theorem p_L_c10 {l : Launch} (hst : l.stackTraces = false) {L : Nat} {xs : Nat → Int32} {V : Nat → Nat → am_VT} (hV : am_BL l (am_cdT' tL_law) L xs V) (n : Nat) {c s : Nat} (hb : c + 1 ≤ room_1.cells ∧ s + 6 ≤ room_1.slots) (kont : (Nat → Nat) → am_M → (Nat → Int64) → (Nat → Int64) → am_M → Int32 → Option Bool) (hk : ∀ (χ : Nat → Nat) (σ : am_M) (τ : Nat → Int64) (o : Nat → Int64) (ρ : am_M) (i : Int32) (c' s' : Nat), c' ≤ c + 1 → s' ≤ s + 6 → am_chi χ → kont χ σ τ o ρ i = some true → V c' s' (wL 7 18 χ σ τ o ρ) 23 [(0, .retAddr 99), (1, .ref 0), (2, .ref 75), (3, .ref 74), (4, .int i)] []) (χ : Nat → Nat) (σ : am_M) (τ : Nat → Int64) (o : Nat → Int64) (ρ : am_M) (i : Int32) (hχ : am_chi χ) (h : L_c10 n L xs kont χ σ τ o ρ i = some true) : V c s (wL 7 18 χ σ τ o ρ) 597 [(0, .retAddr 99), (1, .ref 0), (2, .ref 75), (3, .ref 74), (4, .int i)] [] := by
  unfold L_c10 at h
  have hb0 : c ≤ room_1.cells ∧ s ≤ room_1.slots := ⟨by omega, by omega⟩
  have hb1 : c + 1 ≤ room_1.cells ∧ s + 6 ≤ room_1.slots := hb
  by_cases g1 : (i + 1) < 0 ∨ L ≤ (i + 1).toNatClampNeg
  · rw [if_pos g1] at h; cases h
  rw [if_neg g1] at h
  refine hV.run 5 [] (ws' := wL 7 18 χ σ τ o ρ) (pc' := 603) (ls' := [(0, .retAddr 99), (1, .ref 0), (2, .ref 75), (3, .ref 74), (4, .int i)]) (st' := [.int (i + 1), .retAddr 99, .ref 0]) (ps := []) rfl trivial ?_
  refine hV.sd g1 rfl rfl ?_
  by_cases g2 : (i + 2) < 0 ∨ L ≤ (i + 2).toNatClampNeg
  · rw [if_pos g2] at h; cases h
  rw [if_neg g2] at h
  refine hV.run 4 [] (ws' := wL 7 18 χ σ τ o ρ) (pc' := 609) (ls' := [(0, .retAddr 99), (1, .ref 0), (2, .ref 75), (3, .ref 74), (4, .int i)]) (st' := [.int (i + 2), .retAddr 99, .int (xs (i + 1).toNatClampNeg), .ref 0]) (ps := []) rfl trivial ?_
  refine hV.sd g2 rfl rfl ?_
  refine hV.run 1 [] (ws' := wL 7 18 χ σ τ o ρ) (pc' := 611) (ls' := [(0, .retAddr 99), (1, .ref 0), (2, .ref 75), (3, .ref 74), (4, .int i)]) (st' := [.ref 74, .int (xs (i + 2).toNatClampNeg), .int (xs (i + 1).toNatClampNeg), .ref 0]) (ps := []) rfl trivial ?_
  obtain ⟨q3, hq3, h⟩ := am_bind h
  by_cases g4 : ¬ am_chib q3.2.2.2 = true
  · rw [if_pos g4] at h; cases h
  rw [if_neg g4] at h
  refine hV.cS (n := 4) (as := [.ref 0, .int (xs (i + 1).toNatClampNeg), .int (xs (i + 2).toNatClampNeg), .ref 74]) (rest := []) (st := [.ref 74, .int (xs (i + 2).toNatClampNeg), .int (xs (i + 1).toNatClampNeg), .ref 0]) (pc2 := 614) (c_L_could l hst n σ τ χ o (xs (i + 1).toNatClampNeg) (xs (i + 2).toNatClampNeg) q3 hq3 hχ (am_chib_ok (Classical.not_not.mp g4))) (am_wd 1199 (by decide +kernel) rfl) (am_wd 174 (by decide +kernel) rfl) (am_wd 1198 (by decide +kernel) rfl) (am_wd 1197 (by decide +kernel) rfl) ⟨by decide +kernel, by decide +kernel, by decide +kernel⟩ rfl rfl rfl hb rfl (by decide) (by decide) hχ (am_chib_ok (Classical.not_not.mp g4)) rfl rfl rfl rfl ?_
  refine hV.run 6 [] (ws' := wL 7 18 q3.2.2.2 q3.2.1 q3.2.2.1 (hO id o q3.1) ρ) (pc' := 622) (ls' := [(5, .int (hR q3.1)), (0, .retAddr 99), (1, .ref 0), (2, .ref 75), (3, .ref 74), (4, .int i)]) (st' := [.int (i + 1), .retAddr 99, .ref 75]) (ps := []) rfl trivial ?_
  refine hV.sd g1 rfl rfl ?_
  refine hV.run 4 [] (ws' := wL 7 18 q3.2.2.2 q3.2.1 q3.2.2.1 (hO id o q3.1) ρ) (pc' := 628) (ls' := [(5, .int (hR q3.1)), (0, .retAddr 99), (1, .ref 0), (2, .ref 75), (3, .ref 74), (4, .int i)]) (st' := [.int (i + 2), .retAddr 99, .int (xs (i + 1).toNatClampNeg), .ref 75]) (ps := []) rfl trivial ?_
  refine hV.sd g2 rfl rfl ?_
  obtain ⟨q5, hq5, h⟩ := am_bind h
  refine hV.cM (as := [.int (xs (i + 1).toNatClampNeg), .int (xs (i + 2).toNatClampNeg)]) (rest := []) (st := [.int (xs (i + 2).toNatClampNeg), .int (xs (i + 1).toNatClampNeg), .ref 75]) (pc2 := 632) kL_105 (am_wd 1865 (by decide +kernel) rfl) (c_X8_could l n ρ (xs (i + 1).toNatClampNeg) (xs (i + 2).toNatClampNeg) q5 hq5) rfl rfl rfl rfl hb1 rfl rfl rfl rfl rfl ?_
  refine hV.run 2 [] (ws' := wL 7 18 q3.2.2.2 q3.2.1 q3.2.2.1 (hO id o q3.1) q5.2) (pc' := 635) (ls' := [(6, .int q5.1), (5, .int (hR q3.1)), (0, .retAddr 99), (1, .ref 0), (2, .ref 75), (3, .ref 74), (4, .int i)]) (st' := [.ref 75]) (ps := []) rfl trivial ?_
  refine hV.cM (as := []) (rest := []) (st := [.ref 75]) (pc2 := 638) kL_68 (am_wd 1559 (by decide +kernel) rfl) (c_X8_thrown l q5.2) rfl rfl rfl rfl hb1 rfl rfl rfl rfl rfl ?_
  by_cases c6 : (X8_thrown q5.2) = (hR q3.1)
  · rw [if_pos c6] at h
    by_cases c7 : (hR q3.1) = 0
    · rw [if_pos c7] at h
      by_cases c8 : (lg_cmp ((hO id o q3.1) (0 : Int32).toNatClampNeg) q5.1.toInt64) = 0
      · rw [if_pos c8] at h
        refine hV.run 14 [1, 0, 1] (ws' := wL 7 18 q3.2.2.2 q3.2.1 q3.2.2.1 (hO id o q3.1) q5.2) (pc' := 23) (ls' := [(4, .int (i + 6)), (6, .int q5.1), (5, .int (hR q3.1)), (0, .retAddr 99), (1, .ref 0), (2, .ref 75), (3, .ref 74)]) (st' := []) (ps := [(X8_thrown q5.2) = (hR q3.1), (hR q3.1) = 0, vp_in 0 1, (lg_cmp ((hO id o q3.1) (0 : Int32).toNatClampNeg) q5.1.toInt64) = 0]) rfl ⟨c6, c7, (am_inc (by decide)), c8, trivial⟩ ?_
        refine hV.pk [3, 4, 5, 6, 0] (ls' := [(0, .retAddr 99), (1, .ref 0), (2, .ref 75), (3, .ref 74), (4, .int (i + 6))]) rfl ?_
        exact hk q3.2.2.2 q3.2.1 q3.2.2.1 (hO id o q3.1) q5.2 (i + 6) _ _ (by omega) (by omega) (am_chib_ok (Classical.not_not.mp g4)) h
      · rw [if_neg c8] at h
        cases h
    · rw [if_neg c7] at h
      refine hV.run 7 [1, 1] (ws' := wL 7 18 q3.2.2.2 q3.2.1 q3.2.2.1 (hO id o q3.1) q5.2) (pc' := 23) (ls' := [(4, .int (i + 6)), (6, .int q5.1), (5, .int (hR q3.1)), (0, .retAddr 99), (1, .ref 0), (2, .ref 75), (3, .ref 74)]) (st' := []) (ps := [(X8_thrown q5.2) = (hR q3.1), ¬ (hR q3.1) = 0]) rfl ⟨c6, c7, trivial⟩ ?_
      refine hV.pk [3, 4, 5, 6, 0] (ls' := [(0, .retAddr 99), (1, .ref 0), (2, .ref 75), (3, .ref 74), (4, .int (i + 6))]) rfl ?_
      exact hk q3.2.2.2 q3.2.1 q3.2.2.1 (hO id o q3.1) q5.2 (i + 6) _ _ (by omega) (by omega) (am_chib_ok (Classical.not_not.mp g4)) h
  · rw [if_neg c6] at h
    cases h
def L_c11 (n L : Nat) (xs : Nat → Int32) (kont : (Nat → Nat) → am_M → (Nat → Int64) → (Nat → Int64) → am_M → Int32 → Option Bool) (χ : Nat → Nat) (σ : am_M) (τ : Nat → Int64) (o : Nat → Int64) (ρ : am_M) (i : Int32) : Option Bool := (X7_needs n σ τ χ).bind (fun q1 => if ¬ am_chib q1.2.2.2 = true then none else (X8_needs n ρ).bind (fun q3 => if q1.1 = q3.1 then (kont q1.2.2.2 q1.2.1 q1.2.2.1 o q3.2 (i + 6)) else (some false)))
set_option maxRecDepth 100000 in
set_option maxHeartbeats 4000000 in
theorem p_L_c11 {l : Launch} (hst : l.stackTraces = false) {L : Nat} {xs : Nat → Int32} {V : Nat → Nat → am_VT} (hV : am_BL l (am_cdT' tL_law) L xs V) (n : Nat) {c s : Nat} (hb : c + 1 ≤ room_1.cells ∧ s + 6 ≤ room_1.slots) (kont : (Nat → Nat) → am_M → (Nat → Int64) → (Nat → Int64) → am_M → Int32 → Option Bool) (hk : ∀ (χ : Nat → Nat) (σ : am_M) (τ : Nat → Int64) (o : Nat → Int64) (ρ : am_M) (i : Int32) (c' s' : Nat), c' ≤ c + 1 → s' ≤ s + 6 → am_chi χ → kont χ σ τ o ρ i = some true → V c' s' (wL 7 18 χ σ τ o ρ) 23 [(0, .retAddr 99), (1, .ref 0), (2, .ref 75), (3, .ref 74), (4, .int i)] []) (χ : Nat → Nat) (σ : am_M) (τ : Nat → Int64) (o : Nat → Int64) (ρ : am_M) (i : Int32) (hχ : am_chi χ) (h : L_c11 n L xs kont χ σ τ o ρ i = some true) : V c s (wL 7 18 χ σ τ o ρ) 665 [(0, .retAddr 99), (1, .ref 0), (2, .ref 75), (3, .ref 74), (4, .int i)] [] := by
  unfold L_c11 at h
  have hb0 : c ≤ room_1.cells ∧ s ≤ room_1.slots := ⟨by omega, by omega⟩
  have hb1 : c + 1 ≤ room_1.cells ∧ s + 6 ≤ room_1.slots := hb
  refine hV.run 1 [] (ws' := wL 7 18 χ σ τ o ρ) (pc' := 666) (ls' := [(0, .retAddr 99), (1, .ref 0), (2, .ref 75), (3, .ref 74), (4, .int i)]) (st' := [.ref 0]) (ps := []) rfl trivial ?_
  obtain ⟨q1, hq1, h⟩ := am_bind h
  by_cases g2 : ¬ am_chib q1.2.2.2 = true
  · rw [if_pos g2] at h; cases h
  rw [if_neg g2] at h
  refine hV.cH (as := []) (rest := []) (st := [.ref 0]) (pc2 := 669) kL_106 (am_wd 852 (by decide +kernel) rfl) (c_X7_needs l n σ τ χ q1 hq1) rfl rfl rfl rfl hb0 rfl hχ (am_chib_ok (Classical.not_not.mp g2)) rfl rfl rfl rfl ?_
  refine hV.run 1 [] (ws' := wL 7 18 q1.2.2.2 q1.2.1 q1.2.2.1 o ρ) (pc' := 670) (ls' := [(0, .retAddr 99), (1, .ref 0), (2, .ref 75), (3, .ref 74), (4, .int i)]) (st' := [.ref 75, .int q1.1]) (ps := []) rfl trivial ?_
  obtain ⟨q3, hq3, h⟩ := am_bind h
  refine hV.cM (as := []) (rest := [.int q1.1]) (st := [.ref 75, .int q1.1]) (pc2 := 673) kL_109 (am_wd 1873 (by decide +kernel) rfl) (c_X8_needs l n ρ q3 hq3) rfl rfl rfl rfl hb0 rfl rfl rfl rfl rfl ?_
  by_cases c4 : q1.1 = q3.1
  · rw [if_pos c4] at h
    refine hV.run 3 [1] (ws' := wL 7 18 q1.2.2.2 q1.2.1 q1.2.2.1 o q3.2) (pc' := 23) (ls' := [(4, .int (i + 6)), (0, .retAddr 99), (1, .ref 0), (2, .ref 75), (3, .ref 74)]) (st' := []) (ps := [q1.1 = q3.1]) rfl ⟨c4, trivial⟩ ?_
    refine hV.pk [1, 2, 3, 4, 0] (ls' := [(0, .retAddr 99), (1, .ref 0), (2, .ref 75), (3, .ref 74), (4, .int (i + 6))]) rfl ?_
    exact hk q1.2.2.2 q1.2.1 q1.2.2.1 o q3.2 (i + 6) _ _ (by omega) (by omega) (am_chib_ok (Classical.not_not.mp g2)) h
  · rw [if_neg c4] at h
    cases h
def L_c12 (n L : Nat) (xs : Nat → Int32) (kont : (Nat → Nat) → am_M → (Nat → Int64) → (Nat → Int64) → am_M → Int32 → Option Bool) (χ : Nat → Nat) (σ : am_M) (τ : Nat → Int64) (o : Nat → Int64) (ρ : am_M) (i : Int32) : Option Bool := (X7_cut n σ τ χ).bind (fun q1 => if ¬ am_chib q1.2.2.2 = true then none else (X8_cut n ρ).bind (fun q3 => if q1.1 = q3.1 then (kont q1.2.2.2 q1.2.1 q1.2.2.1 o q3.2 (i + 6)) else (some false)))
set_option maxRecDepth 100000 in
set_option maxHeartbeats 4000000 in
theorem p_L_c12 {l : Launch} (hst : l.stackTraces = false) {L : Nat} {xs : Nat → Int32} {V : Nat → Nat → am_VT} (hV : am_BL l (am_cdT' tL_law) L xs V) (n : Nat) {c s : Nat} (hb : c + 1 ≤ room_1.cells ∧ s + 6 ≤ room_1.slots) (kont : (Nat → Nat) → am_M → (Nat → Int64) → (Nat → Int64) → am_M → Int32 → Option Bool) (hk : ∀ (χ : Nat → Nat) (σ : am_M) (τ : Nat → Int64) (o : Nat → Int64) (ρ : am_M) (i : Int32) (c' s' : Nat), c' ≤ c + 1 → s' ≤ s + 6 → am_chi χ → kont χ σ τ o ρ i = some true → V c' s' (wL 7 18 χ σ τ o ρ) 23 [(0, .retAddr 99), (1, .ref 0), (2, .ref 75), (3, .ref 74), (4, .int i)] []) (χ : Nat → Nat) (σ : am_M) (τ : Nat → Int64) (o : Nat → Int64) (ρ : am_M) (i : Int32) (hχ : am_chi χ) (h : L_c12 n L xs kont χ σ τ o ρ i = some true) : V c s (wL 7 18 χ σ τ o ρ) 678 [(0, .retAddr 99), (1, .ref 0), (2, .ref 75), (3, .ref 74), (4, .int i)] [] := by
  unfold L_c12 at h
  have hb0 : c ≤ room_1.cells ∧ s ≤ room_1.slots := ⟨by omega, by omega⟩
  have hb1 : c + 1 ≤ room_1.cells ∧ s + 6 ≤ room_1.slots := hb
  refine hV.run 1 [] (ws' := wL 7 18 χ σ τ o ρ) (pc' := 679) (ls' := [(0, .retAddr 99), (1, .ref 0), (2, .ref 75), (3, .ref 74), (4, .int i)]) (st' := [.ref 0]) (ps := []) rfl trivial ?_
  obtain ⟨q1, hq1, h⟩ := am_bind h
  by_cases g2 : ¬ am_chib q1.2.2.2 = true
  · rw [if_pos g2] at h; cases h
  rw [if_neg g2] at h
  refine hV.cH (as := []) (rest := []) (st := [.ref 0]) (pc2 := 682) kL_110 (am_wd 860 (by decide +kernel) rfl) (c_X7_cut l n σ τ χ q1 hq1) rfl rfl rfl rfl hb0 rfl hχ (am_chib_ok (Classical.not_not.mp g2)) rfl rfl rfl rfl ?_
  refine hV.run 1 [] (ws' := wL 7 18 q1.2.2.2 q1.2.1 q1.2.2.1 o ρ) (pc' := 683) (ls' := [(0, .retAddr 99), (1, .ref 0), (2, .ref 75), (3, .ref 74), (4, .int i)]) (st' := [.ref 75, .int q1.1]) (ps := []) rfl trivial ?_
  obtain ⟨q3, hq3, h⟩ := am_bind h
  refine hV.cM (as := []) (rest := [.int q1.1]) (st := [.ref 75, .int q1.1]) (pc2 := 686) kL_113 (am_wd 1881 (by decide +kernel) rfl) (c_X8_cut l n ρ q3 hq3) rfl rfl rfl rfl hb0 rfl rfl rfl rfl rfl ?_
  by_cases c4 : q1.1 = q3.1
  · rw [if_pos c4] at h
    refine hV.run 3 [1] (ws' := wL 7 18 q1.2.2.2 q1.2.1 q1.2.2.1 o q3.2) (pc' := 23) (ls' := [(4, .int (i + 6)), (0, .retAddr 99), (1, .ref 0), (2, .ref 75), (3, .ref 74)]) (st' := []) (ps := [q1.1 = q3.1]) rfl ⟨c4, trivial⟩ ?_
    refine hV.pk [1, 2, 3, 4, 0] (ls' := [(0, .retAddr 99), (1, .ref 0), (2, .ref 75), (3, .ref 74), (4, .int (i + 6))]) rfl ?_
    exact hk q1.2.2.2 q1.2.1 q1.2.2.1 o q3.2 (i + 6) _ _ (by omega) (by omega) (am_chib_ok (Classical.not_not.mp g2)) h
  · rw [if_neg c4] at h
    cases h
