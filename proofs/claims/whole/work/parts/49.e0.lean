def L_c0 (n L : Nat) (xs : Nat → Int32) (kont : (Nat → Nat) → am_M → (Nat → Int64) → (Nat → Int64) → am_M → Int32 → Option Bool) (χ : Nat → Nat) (σ : am_M) (τ : Nat → Int64) (o : Nat → Int64) (ρ : am_M) (i : Int32) : Option Bool := if (i + 1) < 0 ∨ L ≤ (i + 1).toNatClampNeg then none else (if (i + 2) < 0 ∨ L ≤ (i + 2).toNatClampNeg then none else (if (i + 3) < 0 ∨ L ≤ (i + 3).toNatClampNeg then none else (if (i + 4) < 0 ∨ L ≤ (i + 4).toNatClampNeg then none else (if (i + 5) < 0 ∨ L ≤ (i + 5).toNatClampNeg then none else (X7_feed n σ τ χ (xs (i + 1).toNatClampNeg) (xs (i + 2).toNatClampNeg) (xs (i + 3).toNatClampNeg) (xs (i + 4).toNatClampNeg) (xs (i + 5).toNatClampNeg)).bind (fun q6 => if ¬ am_chib q6.2.2.2 = true then none else (X8_feed n ρ (xs (i + 1).toNatClampNeg) (xs (i + 2).toNatClampNeg) (xs (i + 3).toNatClampNeg) (xs (i + 4).toNatClampNeg) (xs (i + 5).toNatClampNeg)).bind (fun q8 => if q6.1 = q8.1 then (kont q6.2.2.2 q6.2.1 q6.2.2.1 o q8.2 (i + 6)) else (some false)))))))
set_option maxRecDepth 100000 in
set_option maxHeartbeats 4000000 in
theorem p_L_c0 {l : Launch} (hst : l.stackTraces = false) {L : Nat} {xs : Nat → Int32} {V : Nat → Nat → am_VT} (hV : am_BL l (am_cdT' tL_law) L xs V) (n : Nat) {c s : Nat} (hb : c + 1 ≤ room_1.cells ∧ s + 6 ≤ room_1.slots) (kont : (Nat → Nat) → am_M → (Nat → Int64) → (Nat → Int64) → am_M → Int32 → Option Bool) (hk : ∀ (χ : Nat → Nat) (σ : am_M) (τ : Nat → Int64) (o : Nat → Int64) (ρ : am_M) (i : Int32) (c' s' : Nat), c' ≤ c + 1 → s' ≤ s + 6 → am_chi χ → kont χ σ τ o ρ i = some true → V c' s' (wL 7 18 χ σ τ o ρ) 23 [(0, .retAddr 99), (1, .ref 0), (2, .ref 75), (3, .ref 74), (4, .int i)] []) (χ : Nat → Nat) (σ : am_M) (τ : Nat → Int64) (o : Nat → Int64) (ρ : am_M) (i : Int32) (hχ : am_chi χ) (h : L_c0 n L xs kont χ σ τ o ρ i = some true) : V c s (wL 7 18 χ σ τ o ρ) 132 [(0, .retAddr 99), (1, .ref 0), (2, .ref 75), (3, .ref 74), (4, .int i)] [] := by
  unfold L_c0 at h
  have hb0 : c ≤ room_1.cells ∧ s ≤ room_1.slots := ⟨by omega, by omega⟩
  have hb1 : c + 1 ≤ room_1.cells ∧ s + 6 ≤ room_1.slots := hb
  by_cases g1 : (i + 1) < 0 ∨ L ≤ (i + 1).toNatClampNeg
  · rw [if_pos g1] at h; cases h
  rw [if_neg g1] at h
  refine hV.run 5 [] (ws' := wL 7 18 χ σ τ o ρ) (pc' := 138) (ls' := [(0, .retAddr 99), (1, .ref 0), (2, .ref 75), (3, .ref 74), (4, .int i)]) (st' := [.int (i + 1), .retAddr 99, .ref 0]) (ps := []) rfl trivial ?_
  refine hV.sd g1 rfl rfl ?_
  by_cases g2 : (i + 2) < 0 ∨ L ≤ (i + 2).toNatClampNeg
  · rw [if_pos g2] at h; cases h
  rw [if_neg g2] at h
  refine hV.run 4 [] (ws' := wL 7 18 χ σ τ o ρ) (pc' := 144) (ls' := [(0, .retAddr 99), (1, .ref 0), (2, .ref 75), (3, .ref 74), (4, .int i)]) (st' := [.int (i + 2), .retAddr 99, .int (xs (i + 1).toNatClampNeg), .ref 0]) (ps := []) rfl trivial ?_
  refine hV.sd g2 rfl rfl ?_
  by_cases g3 : (i + 3) < 0 ∨ L ≤ (i + 3).toNatClampNeg
  · rw [if_pos g3] at h; cases h
  rw [if_neg g3] at h
  refine hV.run 4 [] (ws' := wL 7 18 χ σ τ o ρ) (pc' := 150) (ls' := [(0, .retAddr 99), (1, .ref 0), (2, .ref 75), (3, .ref 74), (4, .int i)]) (st' := [.int (i + 3), .retAddr 99, .int (xs (i + 2).toNatClampNeg), .int (xs (i + 1).toNatClampNeg), .ref 0]) (ps := []) rfl trivial ?_
  refine hV.sd g3 rfl rfl ?_
  by_cases g4 : (i + 4) < 0 ∨ L ≤ (i + 4).toNatClampNeg
  · rw [if_pos g4] at h; cases h
  rw [if_neg g4] at h
  refine hV.run 4 [] (ws' := wL 7 18 χ σ τ o ρ) (pc' := 156) (ls' := [(0, .retAddr 99), (1, .ref 0), (2, .ref 75), (3, .ref 74), (4, .int i)]) (st' := [.int (i + 4), .retAddr 99, .int (xs (i + 3).toNatClampNeg), .int (xs (i + 2).toNatClampNeg), .int (xs (i + 1).toNatClampNeg), .ref 0]) (ps := []) rfl trivial ?_
  refine hV.sd g4 rfl rfl ?_
  by_cases g5 : (i + 5) < 0 ∨ L ≤ (i + 5).toNatClampNeg
  · rw [if_pos g5] at h; cases h
  rw [if_neg g5] at h
  refine hV.run 4 [] (ws' := wL 7 18 χ σ τ o ρ) (pc' := 162) (ls' := [(0, .retAddr 99), (1, .ref 0), (2, .ref 75), (3, .ref 74), (4, .int i)]) (st' := [.int (i + 5), .retAddr 99, .int (xs (i + 4).toNatClampNeg), .int (xs (i + 3).toNatClampNeg), .int (xs (i + 2).toNatClampNeg), .int (xs (i + 1).toNatClampNeg), .ref 0]) (ps := []) rfl trivial ?_
  refine hV.sd g5 rfl rfl ?_
  obtain ⟨q6, hq6, h⟩ := am_bind h
  by_cases g7 : ¬ am_chib q6.2.2.2 = true
  · rw [if_pos g7] at h; cases h
  rw [if_neg g7] at h
  refine hV.cH (as := [.int (xs (i + 1).toNatClampNeg), .int (xs (i + 2).toNatClampNeg), .int (xs (i + 3).toNatClampNeg), .int (xs (i + 4).toNatClampNeg), .int (xs (i + 5).toNatClampNeg)]) (rest := []) (st := [.int (xs (i + 5).toNatClampNeg), .int (xs (i + 4).toNatClampNeg), .int (xs (i + 3).toNatClampNeg), .int (xs (i + 2).toNatClampNeg), .int (xs (i + 1).toNatClampNeg), .ref 0]) (pc2 := 166) kL_57 (am_wd 560 (by decide +kernel) rfl) (c_X7_feed l n σ τ χ (xs (i + 1).toNatClampNeg) (xs (i + 2).toNatClampNeg) (xs (i + 3).toNatClampNeg) (xs (i + 4).toNatClampNeg) (xs (i + 5).toNatClampNeg) q6 hq6) rfl rfl rfl rfl hb0 rfl hχ (am_chib_ok (Classical.not_not.mp g7)) rfl rfl rfl rfl ?_
  refine hV.run 5 [] (ws' := wL 7 18 q6.2.2.2 q6.2.1 q6.2.2.1 o ρ) (pc' := 172) (ls' := [(0, .retAddr 99), (1, .ref 0), (2, .ref 75), (3, .ref 74), (4, .int i)]) (st' := [.int (i + 1), .retAddr 99, .ref 75, .int q6.1]) (ps := []) rfl trivial ?_
  refine hV.sd g1 rfl rfl ?_
  refine hV.run 4 [] (ws' := wL 7 18 q6.2.2.2 q6.2.1 q6.2.2.1 o ρ) (pc' := 178) (ls' := [(0, .retAddr 99), (1, .ref 0), (2, .ref 75), (3, .ref 74), (4, .int i)]) (st' := [.int (i + 2), .retAddr 99, .int (xs (i + 1).toNatClampNeg), .ref 75, .int q6.1]) (ps := []) rfl trivial ?_
  refine hV.sd g2 rfl rfl ?_
  refine hV.run 4 [] (ws' := wL 7 18 q6.2.2.2 q6.2.1 q6.2.2.1 o ρ) (pc' := 184) (ls' := [(0, .retAddr 99), (1, .ref 0), (2, .ref 75), (3, .ref 74), (4, .int i)]) (st' := [.int (i + 3), .retAddr 99, .int (xs (i + 2).toNatClampNeg), .int (xs (i + 1).toNatClampNeg), .ref 75, .int q6.1]) (ps := []) rfl trivial ?_
  refine hV.sd g3 rfl rfl ?_
  refine hV.run 4 [] (ws' := wL 7 18 q6.2.2.2 q6.2.1 q6.2.2.1 o ρ) (pc' := 190) (ls' := [(0, .retAddr 99), (1, .ref 0), (2, .ref 75), (3, .ref 74), (4, .int i)]) (st' := [.int (i + 4), .retAddr 99, .int (xs (i + 3).toNatClampNeg), .int (xs (i + 2).toNatClampNeg), .int (xs (i + 1).toNatClampNeg), .ref 75, .int q6.1]) (ps := []) rfl trivial ?_
  refine hV.sd g4 rfl rfl ?_
  refine hV.run 4 [] (ws' := wL 7 18 q6.2.2.2 q6.2.1 q6.2.2.1 o ρ) (pc' := 196) (ls' := [(0, .retAddr 99), (1, .ref 0), (2, .ref 75), (3, .ref 74), (4, .int i)]) (st' := [.int (i + 5), .retAddr 99, .int (xs (i + 4).toNatClampNeg), .int (xs (i + 3).toNatClampNeg), .int (xs (i + 2).toNatClampNeg), .int (xs (i + 1).toNatClampNeg), .ref 75, .int q6.1]) (ps := []) rfl trivial ?_
  refine hV.sd g5 rfl rfl ?_
  obtain ⟨q8, hq8, h⟩ := am_bind h
  refine hV.cM (as := [.int (xs (i + 1).toNatClampNeg), .int (xs (i + 2).toNatClampNeg), .int (xs (i + 3).toNatClampNeg), .int (xs (i + 4).toNatClampNeg), .int (xs (i + 5).toNatClampNeg)]) (rest := [.int q6.1]) (st := [.int (xs (i + 5).toNatClampNeg), .int (xs (i + 4).toNatClampNeg), .int (xs (i + 3).toNatClampNeg), .int (xs (i + 2).toNatClampNeg), .int (xs (i + 1).toNatClampNeg), .ref 75, .int q6.1]) (pc2 := 200) kL_61 (am_wd 1563 (by decide +kernel) rfl) (c_X8_feed l n ρ (xs (i + 1).toNatClampNeg) (xs (i + 2).toNatClampNeg) (xs (i + 3).toNatClampNeg) (xs (i + 4).toNatClampNeg) (xs (i + 5).toNatClampNeg) q8 hq8) rfl rfl rfl rfl hb0 rfl rfl rfl rfl rfl ?_
  by_cases c9 : q6.1 = q8.1
  · rw [if_pos c9] at h
    refine hV.run 3 [1] (ws' := wL 7 18 q6.2.2.2 q6.2.1 q6.2.2.1 o q8.2) (pc' := 23) (ls' := [(4, .int (i + 6)), (0, .retAddr 99), (1, .ref 0), (2, .ref 75), (3, .ref 74)]) (st' := []) (ps := [q6.1 = q8.1]) rfl ⟨c9, trivial⟩ ?_
    refine hV.pk [1, 2, 3, 4, 0] (ls' := [(0, .retAddr 99), (1, .ref 0), (2, .ref 75), (3, .ref 74), (4, .int (i + 6))]) rfl ?_
    exact hk q6.2.2.2 q6.2.1 q6.2.2.1 o q8.2 (i + 6) _ _ (by omega) (by omega) (am_chib_ok (Classical.not_not.mp g7)) h
  · rw [if_neg c9] at h
    cases h
def L_c1 (n L : Nat) (xs : Nat → Int32) (kont : (Nat → Nat) → am_M → (Nat → Int64) → (Nat → Int64) → am_M → Int32 → Option Bool) (χ : Nat → Nat) (σ : am_M) (τ : Nat → Int64) (o : Nat → Int64) (ρ : am_M) (i : Int32) : Option Bool := if (i + 1) < 0 ∨ L ≤ (i + 1).toNatClampNeg then none else (X7_text n σ τ χ (xs (i + 1).toNatClampNeg)).bind (fun q2 => if ¬ am_chib q2.2.2.2 = true then none else (X8_text n ρ (xs (i + 1).toNatClampNeg)).bind (fun q4 => if (X8_thrown q4.2) = (hR q2.1) then (if (hR q2.1) = 0 then (if (lg_cmp ((hO id o q2.1) (0 : Int32).toNatClampNeg) q4.1.toInt64) = 0 then (kont (tC q2.1 q2.2.2.2) (tS q2.1 q2.2.1) q2.2.2.1 (hO id o q2.1) q4.2 (i + 6)) else (some false)) else (kont (tC q2.1 q2.2.2.2) (tS q2.1 q2.2.1) q2.2.2.1 (hO id o q2.1) q4.2 (i + 6))) else (some false)))
set_option maxRecDepth 100000 in
set_option maxHeartbeats 4000000 in
theorem p_L_c1 {l : Launch} (hst : l.stackTraces = false) {L : Nat} {xs : Nat → Int32} {V : Nat → Nat → am_VT} (hV : am_BL l (am_cdT' tL_law) L xs V) (n : Nat) {c s : Nat} (hb : c + 1 ≤ room_1.cells ∧ s + 6 ≤ room_1.slots) (kont : (Nat → Nat) → am_M → (Nat → Int64) → (Nat → Int64) → am_M → Int32 → Option Bool) (hk : ∀ (χ : Nat → Nat) (σ : am_M) (τ : Nat → Int64) (o : Nat → Int64) (ρ : am_M) (i : Int32) (c' s' : Nat), c' ≤ c + 1 → s' ≤ s + 6 → am_chi χ → kont χ σ τ o ρ i = some true → V c' s' (wL 7 18 χ σ τ o ρ) 23 [(0, .retAddr 99), (1, .ref 0), (2, .ref 75), (3, .ref 74), (4, .int i)] []) (χ : Nat → Nat) (σ : am_M) (τ : Nat → Int64) (o : Nat → Int64) (ρ : am_M) (i : Int32) (hχ : am_chi χ) (h : L_c1 n L xs kont χ σ τ o ρ i = some true) : V c s (wL 7 18 χ σ τ o ρ) 205 [(0, .retAddr 99), (1, .ref 0), (2, .ref 75), (3, .ref 74), (4, .int i)] [] := by
  unfold L_c1 at h
  have hb0 : c ≤ room_1.cells ∧ s ≤ room_1.slots := ⟨by omega, by omega⟩
  have hb1 : c + 1 ≤ room_1.cells ∧ s + 6 ≤ room_1.slots := hb
  by_cases g1 : (i + 1) < 0 ∨ L ≤ (i + 1).toNatClampNeg
  · rw [if_pos g1] at h; cases h
  rw [if_neg g1] at h
  refine hV.run 5 [] (ws' := wL 7 18 χ σ τ o ρ) (pc' := 211) (ls' := [(0, .retAddr 99), (1, .ref 0), (2, .ref 75), (3, .ref 74), (4, .int i)]) (st' := [.int (i + 1), .retAddr 99, .ref 0]) (ps := []) rfl trivial ?_
  refine hV.sd g1 rfl rfl ?_
  refine hV.run 1 [] (ws' := wL 7 18 χ σ τ o ρ) (pc' := 213) (ls' := [(0, .retAddr 99), (1, .ref 0), (2, .ref 75), (3, .ref 74), (4, .int i)]) (st' := [.ref 74, .int (xs (i + 1).toNatClampNeg), .ref 0]) (ps := []) rfl trivial ?_
  obtain ⟨q2, hq2, h⟩ := am_bind h
  by_cases g3 : ¬ am_chib q2.2.2.2 = true
  · rw [if_pos g3] at h; cases h
  rw [if_neg g3] at h
  refine hV.cS (n := 3) (as := [.ref 0, .int (xs (i + 1).toNatClampNeg), .ref 74]) (rest := []) (st := [.ref 74, .int (xs (i + 1).toNatClampNeg), .ref 0]) (pc2 := 216) (c_L_text l hst n σ τ χ o (xs (i + 1).toNatClampNeg) q2 hq2 hχ (am_chib_ok (Classical.not_not.mp g3))) (am_wd 867 (by decide +kernel) rfl) (am_wd 174 (by decide +kernel) rfl) (am_wd 866 (by decide +kernel) rfl) (am_wd 865 (by decide +kernel) rfl) ⟨by decide +kernel, by decide +kernel, by decide +kernel⟩ rfl rfl rfl hb rfl (am_fp_lt _) (am_fc_lt _) hχ (am_chib_ok (Classical.not_not.mp g3)) rfl rfl rfl rfl ?_
  refine hV.fl (q2.1) rfl rfl ?_
  refine hV.run 6 [] (ws' := wL 7 18 (tC q2.1 q2.2.2.2) (tS q2.1 q2.2.1) q2.2.2.1 (hO id o q2.1) ρ) (pc' := 224) (ls' := [(5, .int (hR q2.1)), (0, .retAddr 99), (1, .ref 0), (2, .ref 75), (3, .ref 74), (4, .int i)]) (st' := [.int (i + 1), .retAddr 99, .ref 75]) (ps := []) rfl trivial ?_
  refine hV.sd g1 rfl rfl ?_
  obtain ⟨q4, hq4, h⟩ := am_bind h
  refine hV.cM (as := [.int (xs (i + 1).toNatClampNeg)]) (rest := []) (st := [.int (xs (i + 1).toNatClampNeg), .ref 75]) (pc2 := 228) kL_67 (am_wd 1567 (by decide +kernel) rfl) (c_X8_text l n ρ (xs (i + 1).toNatClampNeg) q4 hq4) rfl rfl rfl rfl hb1 rfl rfl rfl rfl rfl ?_
  refine hV.run 2 [] (ws' := wL 7 18 (tC q2.1 q2.2.2.2) (tS q2.1 q2.2.1) q2.2.2.1 (hO id o q2.1) q4.2) (pc' := 231) (ls' := [(6, .int q4.1), (5, .int (hR q2.1)), (0, .retAddr 99), (1, .ref 0), (2, .ref 75), (3, .ref 74), (4, .int i)]) (st' := [.ref 75]) (ps := []) rfl trivial ?_
  refine hV.cM (as := []) (rest := []) (st := [.ref 75]) (pc2 := 234) kL_68 (am_wd 1559 (by decide +kernel) rfl) (c_X8_thrown l q4.2) rfl rfl rfl rfl hb1 rfl rfl rfl rfl rfl ?_
  by_cases c5 : (X8_thrown q4.2) = (hR q2.1)
  · rw [if_pos c5] at h
    by_cases c6 : (hR q2.1) = 0
    · rw [if_pos c6] at h
      by_cases c7 : (lg_cmp ((hO id o q2.1) (0 : Int32).toNatClampNeg) q4.1.toInt64) = 0
      · rw [if_pos c7] at h
        refine hV.run 14 [1, 0, 1] (ws' := wL 7 18 (tC q2.1 q2.2.2.2) (tS q2.1 q2.2.1) q2.2.2.1 (hO id o q2.1) q4.2) (pc' := 23) (ls' := [(4, .int (i + 6)), (6, .int q4.1), (5, .int (hR q2.1)), (0, .retAddr 99), (1, .ref 0), (2, .ref 75), (3, .ref 74)]) (st' := []) (ps := [(X8_thrown q4.2) = (hR q2.1), (hR q2.1) = 0, vp_in 0 1, (lg_cmp ((hO id o q2.1) (0 : Int32).toNatClampNeg) q4.1.toInt64) = 0]) rfl ⟨c5, c6, (am_inc (by decide)), c7, trivial⟩ ?_
        refine hV.pk [3, 4, 5, 6, 0] (ls' := [(0, .retAddr 99), (1, .ref 0), (2, .ref 75), (3, .ref 74), (4, .int (i + 6))]) rfl ?_
        exact hk (tC q2.1 q2.2.2.2) (tS q2.1 q2.2.1) q2.2.2.1 (hO id o q2.1) q4.2 (i + 6) _ _ (by omega) (by omega) (tC_ok (am_chib_ok (Classical.not_not.mp g3))) h
      · rw [if_neg c7] at h
        cases h
    · rw [if_neg c6] at h
      refine hV.run 7 [1, 1] (ws' := wL 7 18 (tC q2.1 q2.2.2.2) (tS q2.1 q2.2.1) q2.2.2.1 (hO id o q2.1) q4.2) (pc' := 23) (ls' := [(4, .int (i + 6)), (6, .int q4.1), (5, .int (hR q2.1)), (0, .retAddr 99), (1, .ref 0), (2, .ref 75), (3, .ref 74)]) (st' := []) (ps := [(X8_thrown q4.2) = (hR q2.1), ¬ (hR q2.1) = 0]) rfl ⟨c5, c6, trivial⟩ ?_
      refine hV.pk [3, 4, 5, 6, 0] (ls' := [(0, .retAddr 99), (1, .ref 0), (2, .ref 75), (3, .ref 74), (4, .int (i + 6))]) rfl ?_
      exact hk (tC q2.1 q2.2.2.2) (tS q2.1 q2.2.1) q2.2.2.1 (hO id o q2.1) q4.2 (i + 6) _ _ (by omega) (by omega) (tC_ok (am_chib_ok (Classical.not_not.mp g3))) h
  · rw [if_neg c5] at h
    cases h
def L_c2 (n L : Nat) (xs : Nat → Int32) (kont : (Nat → Nat) → am_M → (Nat → Int64) → (Nat → Int64) → am_M → Int32 → Option Bool) (χ : Nat → Nat) (σ : am_M) (τ : Nat → Int64) (o : Nat → Int64) (ρ : am_M) (i : Int32) : Option Bool := (X8_fault ρ).bind (fun q1 => if (X7_fault σ) = q1.1 then (kont χ σ τ o q1.2 (i + 6)) else (some false))
set_option maxRecDepth 100000 in
set_option maxHeartbeats 4000000 in
theorem p_L_c2 {l : Launch} (hst : l.stackTraces = false) {L : Nat} {xs : Nat → Int32} {V : Nat → Nat → am_VT} (hV : am_BL l (am_cdT' tL_law) L xs V) (n : Nat) {c s : Nat} (hb : c + 1 ≤ room_1.cells ∧ s + 6 ≤ room_1.slots) (kont : (Nat → Nat) → am_M → (Nat → Int64) → (Nat → Int64) → am_M → Int32 → Option Bool) (hk : ∀ (χ : Nat → Nat) (σ : am_M) (τ : Nat → Int64) (o : Nat → Int64) (ρ : am_M) (i : Int32) (c' s' : Nat), c' ≤ c + 1 → s' ≤ s + 6 → am_chi χ → kont χ σ τ o ρ i = some true → V c' s' (wL 7 18 χ σ τ o ρ) 23 [(0, .retAddr 99), (1, .ref 0), (2, .ref 75), (3, .ref 74), (4, .int i)] []) (χ : Nat → Nat) (σ : am_M) (τ : Nat → Int64) (o : Nat → Int64) (ρ : am_M) (i : Int32) (hχ : am_chi χ) (h : L_c2 n L xs kont χ σ τ o ρ i = some true) : V c s (wL 7 18 χ σ τ o ρ) 261 [(0, .retAddr 99), (1, .ref 0), (2, .ref 75), (3, .ref 74), (4, .int i)] [] := by
  unfold L_c2 at h
  have hb0 : c ≤ room_1.cells ∧ s ≤ room_1.slots := ⟨by omega, by omega⟩
  have hb1 : c + 1 ≤ room_1.cells ∧ s + 6 ≤ room_1.slots := hb
  refine hV.run 1 [] (ws' := wL 7 18 χ σ τ o ρ) (pc' := 262) (ls' := [(0, .retAddr 99), (1, .ref 0), (2, .ref 75), (3, .ref 74), (4, .int i)]) (st' := [.ref 0]) (ps := []) rfl trivial ?_
  refine hV.cH (as := []) (rest := []) (st := [.ref 0]) (pc2 := 265) kL_72 (am_wd 571 (by decide +kernel) rfl) (c_X7_fault l σ τ χ) rfl rfl rfl rfl hb0 rfl hχ hχ rfl rfl rfl rfl ?_
  refine hV.run 1 [] (ws' := wL 7 18 χ σ τ o ρ) (pc' := 266) (ls' := [(0, .retAddr 99), (1, .ref 0), (2, .ref 75), (3, .ref 74), (4, .int i)]) (st' := [.ref 75, .int (X7_fault σ)]) (ps := []) rfl trivial ?_
  obtain ⟨q1, hq1, h⟩ := am_bind h
  refine hV.cM (as := []) (rest := [.int (X7_fault σ)]) (st := [.ref 75, .int (X7_fault σ)]) (pc2 := 269) kL_75 (am_wd 1674 (by decide +kernel) rfl) (c_X8_fault l ρ q1 hq1) rfl rfl rfl rfl hb0 rfl rfl rfl rfl rfl ?_
  by_cases c2 : (X7_fault σ) = q1.1
  · rw [if_pos c2] at h
    refine hV.run 3 [1] (ws' := wL 7 18 χ σ τ o q1.2) (pc' := 23) (ls' := [(4, .int (i + 6)), (0, .retAddr 99), (1, .ref 0), (2, .ref 75), (3, .ref 74)]) (st' := []) (ps := [(X7_fault σ) = q1.1]) rfl ⟨c2, trivial⟩ ?_
    refine hV.pk [1, 2, 3, 4, 0] (ls' := [(0, .retAddr 99), (1, .ref 0), (2, .ref 75), (3, .ref 74), (4, .int (i + 6))]) rfl ?_
    exact hk χ σ τ o q1.2 (i + 6) _ _ (by omega) (by omega) hχ h
  · rw [if_neg c2] at h
    cases h
def L_c3 (n L : Nat) (xs : Nat → Int32) (kont : (Nat → Nat) → am_M → (Nat → Int64) → (Nat → Int64) → am_M → Int32 → Option Bool) (χ : Nat → Nat) (σ : am_M) (τ : Nat → Int64) (o : Nat → Int64) (ρ : am_M) (i : Int32) : Option Bool := if (i + 1) < 0 ∨ L ≤ (i + 1).toNatClampNeg then none else (if (i + 2) < 0 ∨ L ≤ (i + 2).toNatClampNeg then none else (if (i + 3) < 0 ∨ L ≤ (i + 3).toNatClampNeg then none else (if (i + 4) < 0 ∨ L ≤ (i + 4).toNatClampNeg then none else (X7_world σ τ χ (xs (i + 1).toNatClampNeg) (xs (i + 2).toNatClampNeg) (xs (i + 3).toNatClampNeg) (xs (i + 4).toNatClampNeg)).bind (fun q5 => if ¬ am_chib q5.2.2.2 = true then none else (X8_world ρ (xs (i + 1).toNatClampNeg) (xs (i + 2).toNatClampNeg) (xs (i + 3).toNatClampNeg) (xs (i + 4).toNatClampNeg)).bind (fun q7 => if (b2i q5.1) = (b2i q7.1) then (kont q5.2.2.2 q5.2.1 q5.2.2.1 o q7.2 (i + 6)) else (some false))))))
set_option maxRecDepth 100000 in
set_option maxHeartbeats 4000000 in
theorem p_L_c3 {l : Launch} (hst : l.stackTraces = false) {L : Nat} {xs : Nat → Int32} {V : Nat → Nat → am_VT} (hV : am_BL l (am_cdT' tL_law) L xs V) (n : Nat) {c s : Nat} (hb : c + 1 ≤ room_1.cells ∧ s + 6 ≤ room_1.slots) (kont : (Nat → Nat) → am_M → (Nat → Int64) → (Nat → Int64) → am_M → Int32 → Option Bool) (hk : ∀ (χ : Nat → Nat) (σ : am_M) (τ : Nat → Int64) (o : Nat → Int64) (ρ : am_M) (i : Int32) (c' s' : Nat), c' ≤ c + 1 → s' ≤ s + 6 → am_chi χ → kont χ σ τ o ρ i = some true → V c' s' (wL 7 18 χ σ τ o ρ) 23 [(0, .retAddr 99), (1, .ref 0), (2, .ref 75), (3, .ref 74), (4, .int i)] []) (χ : Nat → Nat) (σ : am_M) (τ : Nat → Int64) (o : Nat → Int64) (ρ : am_M) (i : Int32) (hχ : am_chi χ) (h : L_c3 n L xs kont χ σ τ o ρ i = some true) : V c s (wL 7 18 χ σ τ o ρ) 274 [(0, .retAddr 99), (1, .ref 0), (2, .ref 75), (3, .ref 74), (4, .int i)] [] := by
  unfold L_c3 at h
  have hb0 : c ≤ room_1.cells ∧ s ≤ room_1.slots := ⟨by omega, by omega⟩
  have hb1 : c + 1 ≤ room_1.cells ∧ s + 6 ≤ room_1.slots := hb
  by_cases g1 : (i + 1) < 0 ∨ L ≤ (i + 1).toNatClampNeg
  · rw [if_pos g1] at h; cases h
  rw [if_neg g1] at h
  refine hV.run 5 [] (ws' := wL 7 18 χ σ τ o ρ) (pc' := 280) (ls' := [(0, .retAddr 99), (1, .ref 0), (2, .ref 75), (3, .ref 74), (4, .int i)]) (st' := [.int (i + 1), .retAddr 99, .ref 0]) (ps := []) rfl trivial ?_
  refine hV.sd g1 rfl rfl ?_
  by_cases g2 : (i + 2) < 0 ∨ L ≤ (i + 2).toNatClampNeg
  · rw [if_pos g2] at h; cases h
  rw [if_neg g2] at h
  refine hV.run 4 [] (ws' := wL 7 18 χ σ τ o ρ) (pc' := 286) (ls' := [(0, .retAddr 99), (1, .ref 0), (2, .ref 75), (3, .ref 74), (4, .int i)]) (st' := [.int (i + 2), .retAddr 99, .int (xs (i + 1).toNatClampNeg), .ref 0]) (ps := []) rfl trivial ?_
  refine hV.sd g2 rfl rfl ?_
  by_cases g3 : (i + 3) < 0 ∨ L ≤ (i + 3).toNatClampNeg
  · rw [if_pos g3] at h; cases h
  rw [if_neg g3] at h
  refine hV.run 4 [] (ws' := wL 7 18 χ σ τ o ρ) (pc' := 292) (ls' := [(0, .retAddr 99), (1, .ref 0), (2, .ref 75), (3, .ref 74), (4, .int i)]) (st' := [.int (i + 3), .retAddr 99, .int (xs (i + 2).toNatClampNeg), .int (xs (i + 1).toNatClampNeg), .ref 0]) (ps := []) rfl trivial ?_
  refine hV.sd g3 rfl rfl ?_
  by_cases g4 : (i + 4) < 0 ∨ L ≤ (i + 4).toNatClampNeg
  · rw [if_pos g4] at h; cases h
  rw [if_neg g4] at h
  refine hV.run 4 [] (ws' := wL 7 18 χ σ τ o ρ) (pc' := 298) (ls' := [(0, .retAddr 99), (1, .ref 0), (2, .ref 75), (3, .ref 74), (4, .int i)]) (st' := [.int (i + 4), .retAddr 99, .int (xs (i + 3).toNatClampNeg), .int (xs (i + 2).toNatClampNeg), .int (xs (i + 1).toNatClampNeg), .ref 0]) (ps := []) rfl trivial ?_
  refine hV.sd g4 rfl rfl ?_
  obtain ⟨q5, hq5, h⟩ := am_bind h
  by_cases g6 : ¬ am_chib q5.2.2.2 = true
  · rw [if_pos g6] at h; cases h
  rw [if_neg g6] at h
  refine hV.cH (as := [.int (xs (i + 1).toNatClampNeg), .int (xs (i + 2).toNatClampNeg), .int (xs (i + 3).toNatClampNeg), .int (xs (i + 4).toNatClampNeg)]) (rest := []) (st := [.int (xs (i + 4).toNatClampNeg), .int (xs (i + 3).toNatClampNeg), .int (xs (i + 2).toNatClampNeg), .int (xs (i + 1).toNatClampNeg), .ref 0]) (pc2 := 302) kL_76 (am_wd 575 (by decide +kernel) rfl) (c_X7_world l σ τ χ (xs (i + 1).toNatClampNeg) (xs (i + 2).toNatClampNeg) (xs (i + 3).toNatClampNeg) (xs (i + 4).toNatClampNeg) q5 hq5) rfl rfl rfl rfl hb0 rfl hχ (am_chib_ok (Classical.not_not.mp g6)) rfl rfl rfl rfl ?_
  refine hV.run 5 [] (ws' := wL 7 18 q5.2.2.2 q5.2.1 q5.2.2.1 o ρ) (pc' := 308) (ls' := [(0, .retAddr 99), (1, .ref 0), (2, .ref 75), (3, .ref 74), (4, .int i)]) (st' := [.int (i + 1), .retAddr 99, .ref 75, .int (b2i q5.1)]) (ps := []) rfl trivial ?_
  refine hV.sd g1 rfl rfl ?_
  refine hV.run 4 [] (ws' := wL 7 18 q5.2.2.2 q5.2.1 q5.2.2.1 o ρ) (pc' := 314) (ls' := [(0, .retAddr 99), (1, .ref 0), (2, .ref 75), (3, .ref 74), (4, .int i)]) (st' := [.int (i + 2), .retAddr 99, .int (xs (i + 1).toNatClampNeg), .ref 75, .int (b2i q5.1)]) (ps := []) rfl trivial ?_
  refine hV.sd g2 rfl rfl ?_
  refine hV.run 4 [] (ws' := wL 7 18 q5.2.2.2 q5.2.1 q5.2.2.1 o ρ) (pc' := 320) (ls' := [(0, .retAddr 99), (1, .ref 0), (2, .ref 75), (3, .ref 74), (4, .int i)]) (st' := [.int (i + 3), .retAddr 99, .int (xs (i + 2).toNatClampNeg), .int (xs (i + 1).toNatClampNeg), .ref 75, .int (b2i q5.1)]) (ps := []) rfl trivial ?_
  refine hV.sd g3 rfl rfl ?_
  refine hV.run 4 [] (ws' := wL 7 18 q5.2.2.2 q5.2.1 q5.2.2.1 o ρ) (pc' := 326) (ls' := [(0, .retAddr 99), (1, .ref 0), (2, .ref 75), (3, .ref 74), (4, .int i)]) (st' := [.int (i + 4), .retAddr 99, .int (xs (i + 3).toNatClampNeg), .int (xs (i + 2).toNatClampNeg), .int (xs (i + 1).toNatClampNeg), .ref 75, .int (b2i q5.1)]) (ps := []) rfl trivial ?_
  refine hV.sd g4 rfl rfl ?_
  obtain ⟨q7, hq7, h⟩ := am_bind h
  refine hV.cM (as := [.int (xs (i + 1).toNatClampNeg), .int (xs (i + 2).toNatClampNeg), .int (xs (i + 3).toNatClampNeg), .int (xs (i + 4).toNatClampNeg)]) (rest := [.int (b2i q5.1)]) (st := [.int (xs (i + 4).toNatClampNeg), .int (xs (i + 3).toNatClampNeg), .int (xs (i + 2).toNatClampNeg), .int (xs (i + 1).toNatClampNeg), .ref 75, .int (b2i q5.1)]) (pc2 := 330) kL_80 (am_wd 1678 (by decide +kernel) rfl) (c_X8_world l ρ (xs (i + 1).toNatClampNeg) (xs (i + 2).toNatClampNeg) (xs (i + 3).toNatClampNeg) (xs (i + 4).toNatClampNeg) q7 hq7) rfl rfl rfl rfl hb0 rfl rfl rfl rfl rfl ?_
  by_cases c8 : (b2i q5.1) = (b2i q7.1)
  · rw [if_pos c8] at h
    refine hV.run 3 [1] (ws' := wL 7 18 q5.2.2.2 q5.2.1 q5.2.2.1 o q7.2) (pc' := 23) (ls' := [(4, .int (i + 6)), (0, .retAddr 99), (1, .ref 0), (2, .ref 75), (3, .ref 74)]) (st' := []) (ps := [(b2i q5.1) = (b2i q7.1)]) rfl ⟨c8, trivial⟩ ?_
    refine hV.pk [1, 2, 3, 4, 0] (ls' := [(0, .retAddr 99), (1, .ref 0), (2, .ref 75), (3, .ref 74), (4, .int (i + 6))]) rfl ?_
    exact hk q5.2.2.2 q5.2.1 q5.2.2.1 o q7.2 (i + 6) _ _ (by omega) (by omega) (am_chib_ok (Classical.not_not.mp g6)) h
  · rw [if_neg c8] at h
    cases h
def L_c4 (n L : Nat) (xs : Nat → Int32) (kont : (Nat → Nat) → am_M → (Nat → Int64) → (Nat → Int64) → am_M → Int32 → Option Bool) (χ : Nat → Nat) (σ : am_M) (τ : Nat → Int64) (o : Nat → Int64) (ρ : am_M) (i : Int32) : Option Bool := if (i + 1) < 0 ∨ L ≤ (i + 1).toNatClampNeg then none else (X7_count σ (xs (i + 1).toNatClampNeg)).bind (fun q2 => (X8_count n ρ (xs (i + 1).toNatClampNeg)).bind (fun q3 => if (X8_thrown q3.2) = (hR q2) then (if (hR q2) = 0 then (if (lg_cmp ((hO id o q2) (0 : Int32).toNatClampNeg) q3.1.toInt64) = 0 then (kont χ σ τ (hO id o q2) q3.2 (i + 6)) else (some false)) else (kont χ σ τ (hO id o q2) q3.2 (i + 6))) else (some false)))
set_option maxRecDepth 100000 in
set_option maxHeartbeats 4000000 in
theorem p_L_c4 {l : Launch} (hst : l.stackTraces = false) {L : Nat} {xs : Nat → Int32} {V : Nat → Nat → am_VT} (hV : am_BL l (am_cdT' tL_law) L xs V) (n : Nat) {c s : Nat} (hb : c + 1 ≤ room_1.cells ∧ s + 6 ≤ room_1.slots) (kont : (Nat → Nat) → am_M → (Nat → Int64) → (Nat → Int64) → am_M → Int32 → Option Bool) (hk : ∀ (χ : Nat → Nat) (σ : am_M) (τ : Nat → Int64) (o : Nat → Int64) (ρ : am_M) (i : Int32) (c' s' : Nat), c' ≤ c + 1 → s' ≤ s + 6 → am_chi χ → kont χ σ τ o ρ i = some true → V c' s' (wL 7 18 χ σ τ o ρ) 23 [(0, .retAddr 99), (1, .ref 0), (2, .ref 75), (3, .ref 74), (4, .int i)] []) (χ : Nat → Nat) (σ : am_M) (τ : Nat → Int64) (o : Nat → Int64) (ρ : am_M) (i : Int32) (hχ : am_chi χ) (h : L_c4 n L xs kont χ σ τ o ρ i = some true) : V c s (wL 7 18 χ σ τ o ρ) 335 [(0, .retAddr 99), (1, .ref 0), (2, .ref 75), (3, .ref 74), (4, .int i)] [] := by
  unfold L_c4 at h
  have hb0 : c ≤ room_1.cells ∧ s ≤ room_1.slots := ⟨by omega, by omega⟩
  have hb1 : c + 1 ≤ room_1.cells ∧ s + 6 ≤ room_1.slots := hb
  by_cases g1 : (i + 1) < 0 ∨ L ≤ (i + 1).toNatClampNeg
  · rw [if_pos g1] at h; cases h
  rw [if_neg g1] at h
  refine hV.run 5 [] (ws' := wL 7 18 χ σ τ o ρ) (pc' := 341) (ls' := [(0, .retAddr 99), (1, .ref 0), (2, .ref 75), (3, .ref 74), (4, .int i)]) (st' := [.int (i + 1), .retAddr 99, .ref 0]) (ps := []) rfl trivial ?_
  refine hV.sd g1 rfl rfl ?_
  refine hV.run 1 [] (ws' := wL 7 18 χ σ τ o ρ) (pc' := 343) (ls' := [(0, .retAddr 99), (1, .ref 0), (2, .ref 75), (3, .ref 74), (4, .int i)]) (st' := [.ref 74, .int (xs (i + 1).toNatClampNeg), .ref 0]) (ps := []) rfl trivial ?_
  obtain ⟨q2, hq2, h⟩ := am_bind h
  refine hV.cS (n := 3) (as := [.ref 0, .int (xs (i + 1).toNatClampNeg), .ref 74]) (rest := []) (st := [.ref 74, .int (xs (i + 1).toNatClampNeg), .ref 0]) (pc2 := 346) (c_L_count l hst n σ τ χ o (xs (i + 1).toNatClampNeg) q2 hq2 hχ) (am_wd 1142 (by decide +kernel) rfl) (am_wd 174 (by decide +kernel) rfl) (am_wd 1141 (by decide +kernel) rfl) (am_wd 1140 (by decide +kernel) rfl) ⟨by decide +kernel, by decide +kernel, by decide +kernel⟩ rfl rfl rfl hb rfl (by decide) (by decide) hχ hχ rfl rfl rfl rfl ?_
  refine hV.run 6 [] (ws' := wL 7 18 χ σ τ (hO id o q2) ρ) (pc' := 354) (ls' := [(5, .int (hR q2)), (0, .retAddr 99), (1, .ref 0), (2, .ref 75), (3, .ref 74), (4, .int i)]) (st' := [.int (i + 1), .retAddr 99, .ref 75]) (ps := []) rfl trivial ?_
  refine hV.sd g1 rfl rfl ?_
  obtain ⟨q3, hq3, h⟩ := am_bind h
  refine hV.cM (as := [.int (xs (i + 1).toNatClampNeg)]) (rest := []) (st := [.int (xs (i + 1).toNatClampNeg), .ref 75]) (pc2 := 358) kL_83 (am_wd 1682 (by decide +kernel) rfl) (c_X8_count l n ρ (xs (i + 1).toNatClampNeg) q3 hq3) rfl rfl rfl rfl hb1 rfl rfl rfl rfl rfl ?_
  refine hV.run 2 [] (ws' := wL 7 18 χ σ τ (hO id o q2) q3.2) (pc' := 361) (ls' := [(6, .int q3.1), (5, .int (hR q2)), (0, .retAddr 99), (1, .ref 0), (2, .ref 75), (3, .ref 74), (4, .int i)]) (st' := [.ref 75]) (ps := []) rfl trivial ?_
  refine hV.cM (as := []) (rest := []) (st := [.ref 75]) (pc2 := 364) kL_68 (am_wd 1559 (by decide +kernel) rfl) (c_X8_thrown l q3.2) rfl rfl rfl rfl hb1 rfl rfl rfl rfl rfl ?_
  by_cases c4 : (X8_thrown q3.2) = (hR q2)
  · rw [if_pos c4] at h
    by_cases c5 : (hR q2) = 0
    · rw [if_pos c5] at h
      by_cases c6 : (lg_cmp ((hO id o q2) (0 : Int32).toNatClampNeg) q3.1.toInt64) = 0
      · rw [if_pos c6] at h
        refine hV.run 14 [1, 0, 1] (ws' := wL 7 18 χ σ τ (hO id o q2) q3.2) (pc' := 23) (ls' := [(4, .int (i + 6)), (6, .int q3.1), (5, .int (hR q2)), (0, .retAddr 99), (1, .ref 0), (2, .ref 75), (3, .ref 74)]) (st' := []) (ps := [(X8_thrown q3.2) = (hR q2), (hR q2) = 0, vp_in 0 1, (lg_cmp ((hO id o q2) (0 : Int32).toNatClampNeg) q3.1.toInt64) = 0]) rfl ⟨c4, c5, (am_inc (by decide)), c6, trivial⟩ ?_
        refine hV.pk [3, 4, 5, 6, 0] (ls' := [(0, .retAddr 99), (1, .ref 0), (2, .ref 75), (3, .ref 74), (4, .int (i + 6))]) rfl ?_
        exact hk χ σ τ (hO id o q2) q3.2 (i + 6) _ _ (by omega) (by omega) hχ h
      · rw [if_neg c6] at h
        cases h
    · rw [if_neg c5] at h
      refine hV.run 7 [1, 1] (ws' := wL 7 18 χ σ τ (hO id o q2) q3.2) (pc' := 23) (ls' := [(4, .int (i + 6)), (6, .int q3.1), (5, .int (hR q2)), (0, .retAddr 99), (1, .ref 0), (2, .ref 75), (3, .ref 74)]) (st' := []) (ps := [(X8_thrown q3.2) = (hR q2), ¬ (hR q2) = 0]) rfl ⟨c4, c5, trivial⟩ ?_
      refine hV.pk [3, 4, 5, 6, 0] (ls' := [(0, .retAddr 99), (1, .ref 0), (2, .ref 75), (3, .ref 74), (4, .int (i + 6))]) rfl ?_
      exact hk χ σ τ (hO id o q2) q3.2 (i + 6) _ _ (by omega) (by omega) hχ h
  · rw [if_neg c4] at h
    cases h
def L_c5 (n L : Nat) (xs : Nat → Int32) (kont : (Nat → Nat) → am_M → (Nat → Int64) → (Nat → Int64) → am_M → Int32 → Option Bool) (χ : Nat → Nat) (σ : am_M) (τ : Nat → Int64) (o : Nat → Int64) (ρ : am_M) (i : Int32) : Option Bool := if (i + 1) < 0 ∨ L ≤ (i + 1).toNatClampNeg then none else (X7_step σ (xs (i + 1).toNatClampNeg)).bind (fun q2 => (X8_step ρ (xs (i + 1).toNatClampNeg)).bind (fun q3 => if (X8_thrown q3.2) = (hR q2) then (if (hR q2) = 0 then (if (lg_cmp ((hO id o q2) (0 : Int32).toNatClampNeg) q3.1.toInt64) = 0 then (kont χ σ τ (hO id o q2) q3.2 (i + 6)) else (some false)) else (kont χ σ τ (hO id o q2) q3.2 (i + 6))) else (some false)))
set_option maxRecDepth 100000 in
set_option maxHeartbeats 4000000 in
theorem p_L_c5 {l : Launch} (hst : l.stackTraces = false) {L : Nat} {xs : Nat → Int32} {V : Nat → Nat → am_VT} (hV : am_BL l (am_cdT' tL_law) L xs V) (n : Nat) {c s : Nat} (hb : c + 1 ≤ room_1.cells ∧ s + 6 ≤ room_1.slots) (kont : (Nat → Nat) → am_M → (Nat → Int64) → (Nat → Int64) → am_M → Int32 → Option Bool) (hk : ∀ (χ : Nat → Nat) (σ : am_M) (τ : Nat → Int64) (o : Nat → Int64) (ρ : am_M) (i : Int32) (c' s' : Nat), c' ≤ c + 1 → s' ≤ s + 6 → am_chi χ → kont χ σ τ o ρ i = some true → V c' s' (wL 7 18 χ σ τ o ρ) 23 [(0, .retAddr 99), (1, .ref 0), (2, .ref 75), (3, .ref 74), (4, .int i)] []) (χ : Nat → Nat) (σ : am_M) (τ : Nat → Int64) (o : Nat → Int64) (ρ : am_M) (i : Int32) (hχ : am_chi χ) (h : L_c5 n L xs kont χ σ τ o ρ i = some true) : V c s (wL 7 18 χ σ τ o ρ) 391 [(0, .retAddr 99), (1, .ref 0), (2, .ref 75), (3, .ref 74), (4, .int i)] [] := by
  unfold L_c5 at h
  have hb0 : c ≤ room_1.cells ∧ s ≤ room_1.slots := ⟨by omega, by omega⟩
  have hb1 : c + 1 ≤ room_1.cells ∧ s + 6 ≤ room_1.slots := hb
  by_cases g1 : (i + 1) < 0 ∨ L ≤ (i + 1).toNatClampNeg
  · rw [if_pos g1] at h; cases h
  rw [if_neg g1] at h
  refine hV.run 5 [] (ws' := wL 7 18 χ σ τ o ρ) (pc' := 397) (ls' := [(0, .retAddr 99), (1, .ref 0), (2, .ref 75), (3, .ref 74), (4, .int i)]) (st' := [.int (i + 1), .retAddr 99, .ref 0]) (ps := []) rfl trivial ?_
  refine hV.sd g1 rfl rfl ?_
  refine hV.run 1 [] (ws' := wL 7 18 χ σ τ o ρ) (pc' := 399) (ls' := [(0, .retAddr 99), (1, .ref 0), (2, .ref 75), (3, .ref 74), (4, .int i)]) (st' := [.ref 74, .int (xs (i + 1).toNatClampNeg), .ref 0]) (ps := []) rfl trivial ?_
  obtain ⟨q2, hq2, h⟩ := am_bind h
  refine hV.cS (n := 3) (as := [.ref 0, .int (xs (i + 1).toNatClampNeg), .ref 74]) (rest := []) (st := [.ref 74, .int (xs (i + 1).toNatClampNeg), .ref 0]) (pc2 := 402) (c_L_step l hst n σ τ χ o (xs (i + 1).toNatClampNeg) q2 hq2 hχ) (am_wd 1166 (by decide +kernel) rfl) (am_wd 174 (by decide +kernel) rfl) (am_wd 1165 (by decide +kernel) rfl) (am_wd 1164 (by decide +kernel) rfl) ⟨by decide +kernel, by decide +kernel, by decide +kernel⟩ rfl rfl rfl hb rfl (by decide) (by decide) hχ hχ rfl rfl rfl rfl ?_
  refine hV.run 6 [] (ws' := wL 7 18 χ σ τ (hO id o q2) ρ) (pc' := 410) (ls' := [(5, .int (hR q2)), (0, .retAddr 99), (1, .ref 0), (2, .ref 75), (3, .ref 74), (4, .int i)]) (st' := [.int (i + 1), .retAddr 99, .ref 75]) (ps := []) rfl trivial ?_
  refine hV.sd g1 rfl rfl ?_
  obtain ⟨q3, hq3, h⟩ := am_bind h
  refine hV.cM (as := [.int (xs (i + 1).toNatClampNeg)]) (rest := []) (st := [.int (xs (i + 1).toNatClampNeg), .ref 75]) (pc2 := 414) kL_86 (am_wd 1690 (by decide +kernel) rfl) (c_X8_step l ρ (xs (i + 1).toNatClampNeg) q3 hq3) rfl rfl rfl rfl hb1 rfl rfl rfl rfl rfl ?_
  refine hV.run 2 [] (ws' := wL 7 18 χ σ τ (hO id o q2) q3.2) (pc' := 417) (ls' := [(6, .int q3.1), (5, .int (hR q2)), (0, .retAddr 99), (1, .ref 0), (2, .ref 75), (3, .ref 74), (4, .int i)]) (st' := [.ref 75]) (ps := []) rfl trivial ?_
  refine hV.cM (as := []) (rest := []) (st := [.ref 75]) (pc2 := 420) kL_68 (am_wd 1559 (by decide +kernel) rfl) (c_X8_thrown l q3.2) rfl rfl rfl rfl hb1 rfl rfl rfl rfl rfl ?_
  by_cases c4 : (X8_thrown q3.2) = (hR q2)
  · rw [if_pos c4] at h
    by_cases c5 : (hR q2) = 0
    · rw [if_pos c5] at h
      by_cases c6 : (lg_cmp ((hO id o q2) (0 : Int32).toNatClampNeg) q3.1.toInt64) = 0
      · rw [if_pos c6] at h
        refine hV.run 14 [1, 0, 1] (ws' := wL 7 18 χ σ τ (hO id o q2) q3.2) (pc' := 23) (ls' := [(4, .int (i + 6)), (6, .int q3.1), (5, .int (hR q2)), (0, .retAddr 99), (1, .ref 0), (2, .ref 75), (3, .ref 74)]) (st' := []) (ps := [(X8_thrown q3.2) = (hR q2), (hR q2) = 0, vp_in 0 1, (lg_cmp ((hO id o q2) (0 : Int32).toNatClampNeg) q3.1.toInt64) = 0]) rfl ⟨c4, c5, (am_inc (by decide)), c6, trivial⟩ ?_
        refine hV.pk [3, 4, 5, 6, 0] (ls' := [(0, .retAddr 99), (1, .ref 0), (2, .ref 75), (3, .ref 74), (4, .int (i + 6))]) rfl ?_
        exact hk χ σ τ (hO id o q2) q3.2 (i + 6) _ _ (by omega) (by omega) hχ h
      · rw [if_neg c6] at h
        cases h
    · rw [if_neg c5] at h
      refine hV.run 7 [1, 1] (ws' := wL 7 18 χ σ τ (hO id o q2) q3.2) (pc' := 23) (ls' := [(4, .int (i + 6)), (6, .int q3.1), (5, .int (hR q2)), (0, .retAddr 99), (1, .ref 0), (2, .ref 75), (3, .ref 74)]) (st' := []) (ps := [(X8_thrown q3.2) = (hR q2), ¬ (hR q2) = 0]) rfl ⟨c4, c5, trivial⟩ ?_
      refine hV.pk [3, 4, 5, 6, 0] (ls' := [(0, .retAddr 99), (1, .ref 0), (2, .ref 75), (3, .ref 74), (4, .int (i + 6))]) rfl ?_
      exact hk χ σ τ (hO id o q2) q3.2 (i + 6) _ _ (by omega) (by omega) hχ h
  · rw [if_neg c4] at h
    cases h
def L_c6 (n L : Nat) (xs : Nat → Int32) (kont : (Nat → Nat) → am_M → (Nat → Int64) → (Nat → Int64) → am_M → Int32 → Option Bool) (χ : Nat → Nat) (σ : am_M) (τ : Nat → Int64) (o : Nat → Int64) (ρ : am_M) (i : Int32) : Option Bool := (X7_reached n σ τ χ).bind (fun q1 => if ¬ am_chib q1.2.2.2 = true then none else (X8_reached n ρ).bind (fun q3 => if q1.1 = q3.1 then (kont q1.2.2.2 q1.2.1 q1.2.2.1 o q3.2 (i + 6)) else (some false)))
set_option maxRecDepth 100000 in
set_option maxHeartbeats 4000000 in
theorem p_L_c6 {l : Launch} (hst : l.stackTraces = false) {L : Nat} {xs : Nat → Int32} {V : Nat → Nat → am_VT} (hV : am_BL l (am_cdT' tL_law) L xs V) (n : Nat) {c s : Nat} (hb : c + 1 ≤ room_1.cells ∧ s + 6 ≤ room_1.slots) (kont : (Nat → Nat) → am_M → (Nat → Int64) → (Nat → Int64) → am_M → Int32 → Option Bool) (hk : ∀ (χ : Nat → Nat) (σ : am_M) (τ : Nat → Int64) (o : Nat → Int64) (ρ : am_M) (i : Int32) (c' s' : Nat), c' ≤ c + 1 → s' ≤ s + 6 → am_chi χ → kont χ σ τ o ρ i = some true → V c' s' (wL 7 18 χ σ τ o ρ) 23 [(0, .retAddr 99), (1, .ref 0), (2, .ref 75), (3, .ref 74), (4, .int i)] []) (χ : Nat → Nat) (σ : am_M) (τ : Nat → Int64) (o : Nat → Int64) (ρ : am_M) (i : Int32) (hχ : am_chi χ) (h : L_c6 n L xs kont χ σ τ o ρ i = some true) : V c s (wL 7 18 χ σ τ o ρ) 447 [(0, .retAddr 99), (1, .ref 0), (2, .ref 75), (3, .ref 74), (4, .int i)] [] := by
  unfold L_c6 at h
  have hb0 : c ≤ room_1.cells ∧ s ≤ room_1.slots := ⟨by omega, by omega⟩
  have hb1 : c + 1 ≤ room_1.cells ∧ s + 6 ≤ room_1.slots := hb
  refine hV.run 1 [] (ws' := wL 7 18 χ σ τ o ρ) (pc' := 448) (ls' := [(0, .retAddr 99), (1, .ref 0), (2, .ref 75), (3, .ref 74), (4, .int i)]) (st' := [.ref 0]) (ps := []) rfl trivial ?_
  obtain ⟨q1, hq1, h⟩ := am_bind h
  by_cases g2 : ¬ am_chib q1.2.2.2 = true
  · rw [if_pos g2] at h; cases h
  rw [if_neg g2] at h
  refine hV.cH (as := []) (rest := []) (st := [.ref 0]) (pc2 := 451) kL_87 (am_wd 582 (by decide +kernel) rfl) (c_X7_reached l n σ τ χ q1 hq1) rfl rfl rfl rfl hb0 rfl hχ (am_chib_ok (Classical.not_not.mp g2)) rfl rfl rfl rfl ?_
  refine hV.run 1 [] (ws' := wL 7 18 q1.2.2.2 q1.2.1 q1.2.2.1 o ρ) (pc' := 452) (ls' := [(0, .retAddr 99), (1, .ref 0), (2, .ref 75), (3, .ref 74), (4, .int i)]) (st' := [.ref 75, .int q1.1]) (ps := []) rfl trivial ?_
  obtain ⟨q3, hq3, h⟩ := am_bind h
  refine hV.cM (as := []) (rest := [.int q1.1]) (st := [.ref 75, .int q1.1]) (pc2 := 455) kL_90 (am_wd 1698 (by decide +kernel) rfl) (c_X8_reached l n ρ q3 hq3) rfl rfl rfl rfl hb0 rfl rfl rfl rfl rfl ?_
  by_cases c4 : q1.1 = q3.1
  · rw [if_pos c4] at h
    refine hV.run 3 [1] (ws' := wL 7 18 q1.2.2.2 q1.2.1 q1.2.2.1 o q3.2) (pc' := 23) (ls' := [(4, .int (i + 6)), (0, .retAddr 99), (1, .ref 0), (2, .ref 75), (3, .ref 74)]) (st' := []) (ps := [q1.1 = q3.1]) rfl ⟨c4, trivial⟩ ?_
    refine hV.pk [1, 2, 3, 4, 0] (ls' := [(0, .retAddr 99), (1, .ref 0), (2, .ref 75), (3, .ref 74), (4, .int (i + 6))]) rfl ?_
    exact hk q1.2.2.2 q1.2.1 q1.2.2.1 o q3.2 (i + 6) _ _ (by omega) (by omega) (am_chib_ok (Classical.not_not.mp g2)) h
  · rw [if_neg c4] at h
    cases h
