def L_c13 (n L : Nat) (xs : Nat → Int32) (kont : (Nat → Nat) → am_M → (Nat → Int64) → (Nat → Int64) → am_M → Int32 → Option Bool) (χ : Nat → Nat) (σ : am_M) (τ : Nat → Int64) (o : Nat → Int64) (ρ : am_M) (i : Int32) : Option Bool := if (i + 1) < 0 ∨ L ≤ (i + 1).toNatClampNeg then none else (X7_left σ τ (xs (i + 1).toNatClampNeg)).bind (fun q2 => (X8_left ρ (xs (i + 1).toNatClampNeg)).bind (fun q3 => if (X8_thrown q3.2) = (hR q2) then (if (hR q2) = 0 then (if (b2i q3.1) = 0 then (if (lg_cmp ((hO b2i o q2) (0 : Int32).toNatClampNeg) 0) = 0 then (kont χ σ τ (hO b2i o q2) q3.2 (i + 6)) else (some false)) else (if (lg_cmp ((hO b2i o q2) (0 : Int32).toNatClampNeg) 1) = 0 then (kont χ σ τ (hO b2i o q2) q3.2 (i + 6)) else (some false))) else (kont χ σ τ (hO b2i o q2) q3.2 (i + 6))) else (some false)))
set_option maxRecDepth 100000 in
set_option maxHeartbeats 4000000 in
theorem p_L_c13 {l : Launch} (hst : l.stackTraces = false) {L : Nat} {xs : Nat → Int32} {V : Nat → Nat → am_VT} (hV : am_BL l (am_cdT' tL_law) L xs V) (n : Nat) {c s : Nat} (hb : c + 1 ≤ room_1.cells ∧ s + 6 ≤ room_1.slots) (kont : (Nat → Nat) → am_M → (Nat → Int64) → (Nat → Int64) → am_M → Int32 → Option Bool) (hk : ∀ (χ : Nat → Nat) (σ : am_M) (τ : Nat → Int64) (o : Nat → Int64) (ρ : am_M) (i : Int32) (c' s' : Nat), c' ≤ c + 1 → s' ≤ s + 6 → am_chi χ → kont χ σ τ o ρ i = some true → V c' s' (wL 7 18 χ σ τ o ρ) 23 [(0, .retAddr 99), (1, .ref 0), (2, .ref 75), (3, .ref 74), (4, .int i)] []) (χ : Nat → Nat) (σ : am_M) (τ : Nat → Int64) (o : Nat → Int64) (ρ : am_M) (i : Int32) (hχ : am_chi χ) (h : L_c13 n L xs kont χ σ τ o ρ i = some true) : V c s (wL 7 18 χ σ τ o ρ) 691 [(0, .retAddr 99), (1, .ref 0), (2, .ref 75), (3, .ref 74), (4, .int i)] [] := by
  unfold L_c13 at h
  have hb0 : c ≤ room_1.cells ∧ s ≤ room_1.slots := ⟨by omega, by omega⟩
  have hb1 : c + 1 ≤ room_1.cells ∧ s + 6 ≤ room_1.slots := hb
  by_cases g1 : (i + 1) < 0 ∨ L ≤ (i + 1).toNatClampNeg
  · rw [if_pos g1] at h; cases h
  rw [if_neg g1] at h
  refine hV.run 5 [] (ws' := wL 7 18 χ σ τ o ρ) (pc' := 697) (ls' := [(0, .retAddr 99), (1, .ref 0), (2, .ref 75), (3, .ref 74), (4, .int i)]) (st' := [.int (i + 1), .retAddr 99, .ref 0]) (ps := []) rfl trivial ?_
  refine hV.sd g1 rfl rfl ?_
  refine hV.run 1 [] (ws' := wL 7 18 χ σ τ o ρ) (pc' := 699) (ls' := [(0, .retAddr 99), (1, .ref 0), (2, .ref 75), (3, .ref 74), (4, .int i)]) (st' := [.ref 74, .int (xs (i + 1).toNatClampNeg), .ref 0]) (ps := []) rfl trivial ?_
  obtain ⟨q2, hq2, h⟩ := am_bind h
  refine hV.cS (n := 3) (as := [.ref 0, .int (xs (i + 1).toNatClampNeg), .ref 74]) (rest := []) (st := [.ref 74, .int (xs (i + 1).toNatClampNeg), .ref 0]) (pc2 := 702) (c_L_left l hst n σ τ χ o (xs (i + 1).toNatClampNeg) q2 hq2 hχ) (am_wd 1215 (by decide +kernel) rfl) (am_wd 174 (by decide +kernel) rfl) (am_wd 1214 (by decide +kernel) rfl) (am_wd 1213 (by decide +kernel) rfl) ⟨by decide +kernel, by decide +kernel, by decide +kernel⟩ rfl rfl rfl hb rfl (by decide) (by decide) hχ hχ rfl rfl rfl rfl ?_
  refine hV.run 6 [] (ws' := wL 7 18 χ σ τ (hO b2i o q2) ρ) (pc' := 710) (ls' := [(5, .int (hR q2)), (0, .retAddr 99), (1, .ref 0), (2, .ref 75), (3, .ref 74), (4, .int i)]) (st' := [.int (i + 1), .retAddr 99, .ref 75]) (ps := []) rfl trivial ?_
  refine hV.sd g1 rfl rfl ?_
  obtain ⟨q3, hq3, h⟩ := am_bind h
  refine hV.cM (as := [.int (xs (i + 1).toNatClampNeg)]) (rest := []) (st := [.int (xs (i + 1).toNatClampNeg), .ref 75]) (pc2 := 714) kL_116 (am_wd 1885 (by decide +kernel) rfl) (c_X8_left l ρ (xs (i + 1).toNatClampNeg) q3 hq3) rfl rfl rfl rfl hb1 rfl rfl rfl rfl rfl ?_
  refine hV.run 2 [] (ws' := wL 7 18 χ σ τ (hO b2i o q2) q3.2) (pc' := 717) (ls' := [(6, .int (b2i q3.1)), (5, .int (hR q2)), (0, .retAddr 99), (1, .ref 0), (2, .ref 75), (3, .ref 74), (4, .int i)]) (st' := [.ref 75]) (ps := []) rfl trivial ?_
  refine hV.cM (as := []) (rest := []) (st := [.ref 75]) (pc2 := 720) kL_68 (am_wd 1559 (by decide +kernel) rfl) (c_X8_thrown l q3.2) rfl rfl rfl rfl hb1 rfl rfl rfl rfl rfl ?_
  by_cases c4 : (X8_thrown q3.2) = (hR q2)
  · rw [if_pos c4] at h
    by_cases c5 : (hR q2) = 0
    · rw [if_pos c5] at h
      by_cases c6 : (b2i q3.1) = 0
      · rw [if_pos c6] at h
        by_cases c7 : (lg_cmp ((hO b2i o q2) (0 : Int32).toNatClampNeg) 0) = 0
        · rw [if_pos c7] at h
          refine hV.run 15 [1, 0, 1, 1] (ws' := wL 7 18 χ σ τ (hO b2i o q2) q3.2) (pc' := 23) (ls' := [(4, .int (i + 6)), (6, .int (b2i q3.1)), (5, .int (hR q2)), (0, .retAddr 99), (1, .ref 0), (2, .ref 75), (3, .ref 74)]) (st' := []) (ps := [(X8_thrown q3.2) = (hR q2), (hR q2) = 0, vp_in 0 1, (b2i q3.1) = 0, (lg_cmp ((hO b2i o q2) (0 : Int32).toNatClampNeg) 0) = 0]) rfl ⟨c4, c5, (am_inc (by decide)), c6, c7, trivial⟩ ?_
          refine hV.pk [3, 4, 5, 6, 0] (ls' := [(0, .retAddr 99), (1, .ref 0), (2, .ref 75), (3, .ref 74), (4, .int (i + 6))]) rfl ?_
          exact hk χ σ τ (hO b2i o q2) q3.2 (i + 6) _ _ (by omega) (by omega) hχ h
        · rw [if_neg c7] at h
          cases h
      · rw [if_neg c6] at h
        by_cases c8 : (lg_cmp ((hO b2i o q2) (0 : Int32).toNatClampNeg) 1) = 0
        · rw [if_pos c8] at h
          refine hV.run 16 [1, 0, 0, 1] (ws' := wL 7 18 χ σ τ (hO b2i o q2) q3.2) (pc' := 23) (ls' := [(4, .int (i + 6)), (6, .int (b2i q3.1)), (5, .int (hR q2)), (0, .retAddr 99), (1, .ref 0), (2, .ref 75), (3, .ref 74)]) (st' := []) (ps := [(X8_thrown q3.2) = (hR q2), (hR q2) = 0, vp_in 0 1, ¬ (b2i q3.1) = 0, (lg_cmp ((hO b2i o q2) (0 : Int32).toNatClampNeg) 1) = 0]) rfl ⟨c4, c5, (am_inc (by decide)), c6, c8, trivial⟩ ?_
          refine hV.pk [3, 4, 5, 6, 0] (ls' := [(0, .retAddr 99), (1, .ref 0), (2, .ref 75), (3, .ref 74), (4, .int (i + 6))]) rfl ?_
          exact hk χ σ τ (hO b2i o q2) q3.2 (i + 6) _ _ (by omega) (by omega) hχ h
        · rw [if_neg c8] at h
          cases h
    · rw [if_neg c5] at h
      refine hV.run 7 [1, 1] (ws' := wL 7 18 χ σ τ (hO b2i o q2) q3.2) (pc' := 23) (ls' := [(4, .int (i + 6)), (6, .int (b2i q3.1)), (5, .int (hR q2)), (0, .retAddr 99), (1, .ref 0), (2, .ref 75), (3, .ref 74)]) (st' := []) (ps := [(X8_thrown q3.2) = (hR q2), ¬ (hR q2) = 0]) rfl ⟨c4, c5, trivial⟩ ?_
      refine hV.pk [3, 4, 5, 6, 0] (ls' := [(0, .retAddr 99), (1, .ref 0), (2, .ref 75), (3, .ref 74), (4, .int (i + 6))]) rfl ?_
      exact hk χ σ τ (hO b2i o q2) q3.2 (i + 6) _ _ (by omega) (by omega) hχ h
  · rw [if_neg c4] at h
    cases h
def L_c14 (n L : Nat) (xs : Nat → Int32) (kont : (Nat → Nat) → am_M → (Nat → Int64) → (Nat → Int64) → am_M → Int32 → Option Bool) (χ : Nat → Nat) (σ : am_M) (τ : Nat → Int64) (o : Nat → Int64) (ρ : am_M) (i : Int32) : Option Bool := if (i + 1) < 0 ∨ L ≤ (i + 1).toNatClampNeg then none else (if (i + 2) < 0 ∨ L ≤ (i + 2).toNatClampNeg then none else (if (i + 3) < 0 ∨ L ≤ (i + 3).toNatClampNeg then none else (X7_play n σ τ χ (xs (i + 1).toNatClampNeg) ((am_lshl ((xs (i + 2).toNatClampNeg).toInt64) 32) ||| (((xs (i + 3).toNatClampNeg).toInt64) &&& (4294967295 : Int64)))).bind (fun q4 => if ¬ am_chib q4.2.2.2 = true then none else (X8_play n ρ (xs (i + 1).toNatClampNeg) ((am_lshl ((xs (i + 2).toNatClampNeg).toInt64) 32) ||| (((xs (i + 3).toNatClampNeg).toInt64) &&& (4294967295 : Int64)))).bind (fun q6 => if (X8_thrown q6.2) = (hR q4.1) then (if (hR q4.1) = 0 then (if (lg_cmp ((hO id o q4.1) (0 : Int32).toNatClampNeg) q6.1.toInt64) = 0 then (kont q4.2.2.2 q4.2.1 q4.2.2.1 (hO id o q4.1) q6.2 (i + 6)) else (some false)) else (kont q4.2.2.2 q4.2.1 q4.2.2.1 (hO id o q4.1) q6.2 (i + 6))) else (some false)))))
set_option maxRecDepth 100000 in
set_option maxHeartbeats 4000000 in
theorem p_L_c14 {l : Launch} (hst : l.stackTraces = false) {L : Nat} {xs : Nat → Int32} {V : Nat → Nat → am_VT} (hV : am_BL l (am_cdT' tL_law) L xs V) (n : Nat) {c s : Nat} (hb : c + 1 ≤ room_1.cells ∧ s + 6 ≤ room_1.slots) (kont : (Nat → Nat) → am_M → (Nat → Int64) → (Nat → Int64) → am_M → Int32 → Option Bool) (hk : ∀ (χ : Nat → Nat) (σ : am_M) (τ : Nat → Int64) (o : Nat → Int64) (ρ : am_M) (i : Int32) (c' s' : Nat), c' ≤ c + 1 → s' ≤ s + 6 → am_chi χ → kont χ σ τ o ρ i = some true → V c' s' (wL 7 18 χ σ τ o ρ) 23 [(0, .retAddr 99), (1, .ref 0), (2, .ref 75), (3, .ref 74), (4, .int i)] []) (χ : Nat → Nat) (σ : am_M) (τ : Nat → Int64) (o : Nat → Int64) (ρ : am_M) (i : Int32) (hχ : am_chi χ) (h : L_c14 n L xs kont χ σ τ o ρ i = some true) : V c s (wL 7 18 χ σ τ o ρ) 754 [(0, .retAddr 99), (1, .ref 0), (2, .ref 75), (3, .ref 74), (4, .int i)] [] := by
  unfold L_c14 at h
  have hb0 : c ≤ room_1.cells ∧ s ≤ room_1.slots := ⟨by omega, by omega⟩
  have hb1 : c + 1 ≤ room_1.cells ∧ s + 6 ≤ room_1.slots := hb
  by_cases g1 : (i + 1) < 0 ∨ L ≤ (i + 1).toNatClampNeg
  · rw [if_pos g1] at h; cases h
  rw [if_neg g1] at h
  refine hV.run 5 [] (ws' := wL 7 18 χ σ τ o ρ) (pc' := 760) (ls' := [(0, .retAddr 99), (1, .ref 0), (2, .ref 75), (3, .ref 74), (4, .int i)]) (st' := [.int (i + 1), .retAddr 99, .ref 0]) (ps := []) rfl trivial ?_
  refine hV.sd g1 rfl rfl ?_
  by_cases g2 : (i + 2) < 0 ∨ L ≤ (i + 2).toNatClampNeg
  · rw [if_pos g2] at h; cases h
  rw [if_neg g2] at h
  refine hV.run 4 [] (ws' := wL 7 18 χ σ τ o ρ) (pc' := 766) (ls' := [(0, .retAddr 99), (1, .ref 0), (2, .ref 75), (3, .ref 74), (4, .int i)]) (st' := [.int (i + 2), .retAddr 99, .int (xs (i + 1).toNatClampNeg), .ref 0]) (ps := []) rfl trivial ?_
  refine hV.sd g2 rfl rfl ?_
  by_cases g3 : (i + 3) < 0 ∨ L ≤ (i + 3).toNatClampNeg
  · rw [if_pos g3] at h; cases h
  rw [if_neg g3] at h
  refine hV.run 7 [] (ws' := wL 7 18 χ σ τ o ρ) (pc' := 776) (ls' := [(0, .retAddr 99), (1, .ref 0), (2, .ref 75), (3, .ref 74), (4, .int i)]) (st' := [.int (i + 3), .retAddr 99, .long (am_lshl ((xs (i + 2).toNatClampNeg).toInt64) 32), .int (xs (i + 1).toNatClampNeg), .ref 0]) (ps := []) rfl trivial ?_
  refine hV.sd g3 rfl rfl ?_
  refine hV.run 1 [] (ws' := wL 7 18 χ σ τ o ρ) (pc' := 778) (ls' := [(0, .retAddr 99), (1, .ref 0), (2, .ref 75), (3, .ref 74), (4, .int i)]) (st' := [.long ((xs (i + 3).toNatClampNeg).toInt64), .long (am_lshl ((xs (i + 2).toNatClampNeg).toInt64) 32), .int (xs (i + 1).toNatClampNeg), .ref 0]) (ps := []) rfl trivial ?_
  refine hV.kJ 1929 (v := 4294967295) rfl (by decide +kernel) rfl ?_
  refine hV.run 3 [] (ws' := wL 7 18 χ σ τ o ρ) (pc' := 784) (ls' := [(0, .retAddr 99), (1, .ref 0), (2, .ref 75), (3, .ref 74), (4, .int i)]) (st' := [.ref 74, .long ((am_lshl ((xs (i + 2).toNatClampNeg).toInt64) 32) ||| (((xs (i + 3).toNatClampNeg).toInt64) &&& (4294967295 : Int64))), .int (xs (i + 1).toNatClampNeg), .ref 0]) (ps := []) rfl trivial ?_
  obtain ⟨q4, hq4, h⟩ := am_bind h
  by_cases g5 : ¬ am_chib q4.2.2.2 = true
  · rw [if_pos g5] at h; cases h
  rw [if_neg g5] at h
  refine hV.cS (n := 4) (as := [.ref 0, .int (xs (i + 1).toNatClampNeg), .long ((am_lshl ((xs (i + 2).toNatClampNeg).toInt64) 32) ||| (((xs (i + 3).toNatClampNeg).toInt64) &&& (4294967295 : Int64))), .ref 74]) (rest := []) (st := [.ref 74, .long ((am_lshl ((xs (i + 2).toNatClampNeg).toInt64) 32) ||| (((xs (i + 3).toNatClampNeg).toInt64) &&& (4294967295 : Int64))), .int (xs (i + 1).toNatClampNeg), .ref 0]) (pc2 := 787) (c_L_play l hst n σ τ χ o (xs (i + 1).toNatClampNeg) ((am_lshl ((xs (i + 2).toNatClampNeg).toInt64) 32) ||| (((xs (i + 3).toNatClampNeg).toInt64) &&& (4294967295 : Int64))) q4 hq4 hχ (am_chib_ok (Classical.not_not.mp g5))) (am_wd 1223 (by decide +kernel) rfl) (am_wd 174 (by decide +kernel) rfl) (am_wd 1222 (by decide +kernel) rfl) (am_wd 1221 (by decide +kernel) rfl) ⟨by decide +kernel, by decide +kernel, by decide +kernel⟩ rfl rfl rfl hb rfl (by decide) (by decide) hχ (am_chib_ok (Classical.not_not.mp g5)) rfl rfl rfl rfl ?_
  refine hV.run 6 [] (ws' := wL 7 18 q4.2.2.2 q4.2.1 q4.2.2.1 (hO id o q4.1) ρ) (pc' := 795) (ls' := [(5, .int (hR q4.1)), (0, .retAddr 99), (1, .ref 0), (2, .ref 75), (3, .ref 74), (4, .int i)]) (st' := [.int (i + 1), .retAddr 99, .ref 75]) (ps := []) rfl trivial ?_
  refine hV.sd g1 rfl rfl ?_
  refine hV.run 4 [] (ws' := wL 7 18 q4.2.2.2 q4.2.1 q4.2.2.1 (hO id o q4.1) ρ) (pc' := 801) (ls' := [(5, .int (hR q4.1)), (0, .retAddr 99), (1, .ref 0), (2, .ref 75), (3, .ref 74), (4, .int i)]) (st' := [.int (i + 2), .retAddr 99, .int (xs (i + 1).toNatClampNeg), .ref 75]) (ps := []) rfl trivial ?_
  refine hV.sd g2 rfl rfl ?_
  refine hV.run 7 [] (ws' := wL 7 18 q4.2.2.2 q4.2.1 q4.2.2.1 (hO id o q4.1) ρ) (pc' := 811) (ls' := [(5, .int (hR q4.1)), (0, .retAddr 99), (1, .ref 0), (2, .ref 75), (3, .ref 74), (4, .int i)]) (st' := [.int (i + 3), .retAddr 99, .long (am_lshl ((xs (i + 2).toNatClampNeg).toInt64) 32), .int (xs (i + 1).toNatClampNeg), .ref 75]) (ps := []) rfl trivial ?_
  refine hV.sd g3 rfl rfl ?_
  refine hV.run 1 [] (ws' := wL 7 18 q4.2.2.2 q4.2.1 q4.2.2.1 (hO id o q4.1) ρ) (pc' := 813) (ls' := [(5, .int (hR q4.1)), (0, .retAddr 99), (1, .ref 0), (2, .ref 75), (3, .ref 74), (4, .int i)]) (st' := [.long ((xs (i + 3).toNatClampNeg).toInt64), .long (am_lshl ((xs (i + 2).toNatClampNeg).toInt64) 32), .int (xs (i + 1).toNatClampNeg), .ref 75]) (ps := []) rfl trivial ?_
  refine hV.kJ 1929 (v := 4294967295) rfl (by decide +kernel) rfl ?_
  refine hV.run 2 [] (ws' := wL 7 18 q4.2.2.2 q4.2.1 q4.2.2.1 (hO id o q4.1) ρ) (pc' := 818) (ls' := [(5, .int (hR q4.1)), (0, .retAddr 99), (1, .ref 0), (2, .ref 75), (3, .ref 74), (4, .int i)]) (st' := [.long ((am_lshl ((xs (i + 2).toNatClampNeg).toInt64) 32) ||| (((xs (i + 3).toNatClampNeg).toInt64) &&& (4294967295 : Int64))), .int (xs (i + 1).toNatClampNeg), .ref 75]) (ps := []) rfl trivial ?_
  obtain ⟨q6, hq6, h⟩ := am_bind h
  refine hV.cM (as := [.int (xs (i + 1).toNatClampNeg), .long ((am_lshl ((xs (i + 2).toNatClampNeg).toInt64) 32) ||| (((xs (i + 3).toNatClampNeg).toInt64) &&& (4294967295 : Int64)))]) (rest := []) (st := [.long ((am_lshl ((xs (i + 2).toNatClampNeg).toInt64) 32) ||| (((xs (i + 3).toNatClampNeg).toInt64) &&& (4294967295 : Int64))), .int (xs (i + 1).toNatClampNeg), .ref 75]) (pc2 := 821) kL_122 (am_wd 1893 (by decide +kernel) rfl) (c_X8_play l n ρ (xs (i + 1).toNatClampNeg) ((am_lshl ((xs (i + 2).toNatClampNeg).toInt64) 32) ||| (((xs (i + 3).toNatClampNeg).toInt64) &&& (4294967295 : Int64))) q6 hq6) rfl rfl rfl rfl hb1 rfl rfl rfl rfl rfl ?_
  refine hV.run 2 [] (ws' := wL 7 18 q4.2.2.2 q4.2.1 q4.2.2.1 (hO id o q4.1) q6.2) (pc' := 824) (ls' := [(6, .int q6.1), (5, .int (hR q4.1)), (0, .retAddr 99), (1, .ref 0), (2, .ref 75), (3, .ref 74), (4, .int i)]) (st' := [.ref 75]) (ps := []) rfl trivial ?_
  refine hV.cM (as := []) (rest := []) (st := [.ref 75]) (pc2 := 827) kL_68 (am_wd 1559 (by decide +kernel) rfl) (c_X8_thrown l q6.2) rfl rfl rfl rfl hb1 rfl rfl rfl rfl rfl ?_
  by_cases c7 : (X8_thrown q6.2) = (hR q4.1)
  · rw [if_pos c7] at h
    by_cases c8 : (hR q4.1) = 0
    · rw [if_pos c8] at h
      by_cases c9 : (lg_cmp ((hO id o q4.1) (0 : Int32).toNatClampNeg) q6.1.toInt64) = 0
      · rw [if_pos c9] at h
        refine hV.run 14 [1, 0, 1] (ws' := wL 7 18 q4.2.2.2 q4.2.1 q4.2.2.1 (hO id o q4.1) q6.2) (pc' := 23) (ls' := [(4, .int (i + 6)), (6, .int q6.1), (5, .int (hR q4.1)), (0, .retAddr 99), (1, .ref 0), (2, .ref 75), (3, .ref 74)]) (st' := []) (ps := [(X8_thrown q6.2) = (hR q4.1), (hR q4.1) = 0, vp_in 0 1, (lg_cmp ((hO id o q4.1) (0 : Int32).toNatClampNeg) q6.1.toInt64) = 0]) rfl ⟨c7, c8, (am_inc (by decide)), c9, trivial⟩ ?_
        refine hV.pk [3, 4, 5, 6, 0] (ls' := [(0, .retAddr 99), (1, .ref 0), (2, .ref 75), (3, .ref 74), (4, .int (i + 6))]) rfl ?_
        exact hk q4.2.2.2 q4.2.1 q4.2.2.1 (hO id o q4.1) q6.2 (i + 6) _ _ (by omega) (by omega) (am_chib_ok (Classical.not_not.mp g5)) h
      · rw [if_neg c9] at h
        cases h
    · rw [if_neg c8] at h
      refine hV.run 7 [1, 1] (ws' := wL 7 18 q4.2.2.2 q4.2.1 q4.2.2.1 (hO id o q4.1) q6.2) (pc' := 23) (ls' := [(4, .int (i + 6)), (6, .int q6.1), (5, .int (hR q4.1)), (0, .retAddr 99), (1, .ref 0), (2, .ref 75), (3, .ref 74)]) (st' := []) (ps := [(X8_thrown q6.2) = (hR q4.1), ¬ (hR q4.1) = 0]) rfl ⟨c7, c8, trivial⟩ ?_
      refine hV.pk [3, 4, 5, 6, 0] (ls' := [(0, .retAddr 99), (1, .ref 0), (2, .ref 75), (3, .ref 74), (4, .int (i + 6))]) rfl ?_
      exact hk q4.2.2.2 q4.2.1 q4.2.2.1 (hO id o q4.1) q6.2 (i + 6) _ _ (by omega) (by omega) (am_chib_ok (Classical.not_not.mp g5)) h
  · rw [if_neg c7] at h
    cases h
def L_c15 (n L : Nat) (xs : Nat → Int32) (kont : (Nat → Nat) → am_M → (Nat → Int64) → (Nat → Int64) → am_M → Int32 → Option Bool) (χ : Nat → Nat) (σ : am_M) (τ : Nat → Int64) (o : Nat → Int64) (ρ : am_M) (i : Int32) : Option Bool := if (i + 1) < 0 ∨ L ≤ (i + 1).toNatClampNeg then none else (if (i + 2) < 0 ∨ L ≤ (i + 2).toNatClampNeg then none else (X7_of n σ χ (xs (i + 1).toNatClampNeg) (xs (i + 2).toNatClampNeg)).bind (fun q3 => (X8_of ρ (xs (i + 1).toNatClampNeg) (xs (i + 2).toNatClampNeg)).bind (fun q4 => if (X8_thrown q4.2) = (hR q3) then (if (hR q3) = 0 then (if (lg_cmp ((hO id o q3) (0 : Int32).toNatClampNeg) q4.1.toInt64) = 0 then (kont χ σ τ (hO id o q3) q4.2 (i + 6)) else (some false)) else (kont χ σ τ (hO id o q3) q4.2 (i + 6))) else (some false))))
set_option maxRecDepth 100000 in
set_option maxHeartbeats 4000000 in
theorem p_L_c15 {l : Launch} (hst : l.stackTraces = false) {L : Nat} {xs : Nat → Int32} {V : Nat → Nat → am_VT} (hV : am_BL l (am_cdT' tL_law) L xs V) (n : Nat) {c s : Nat} (hb : c + 1 ≤ room_1.cells ∧ s + 6 ≤ room_1.slots) (kont : (Nat → Nat) → am_M → (Nat → Int64) → (Nat → Int64) → am_M → Int32 → Option Bool) (hk : ∀ (χ : Nat → Nat) (σ : am_M) (τ : Nat → Int64) (o : Nat → Int64) (ρ : am_M) (i : Int32) (c' s' : Nat), c' ≤ c + 1 → s' ≤ s + 6 → am_chi χ → kont χ σ τ o ρ i = some true → V c' s' (wL 7 18 χ σ τ o ρ) 23 [(0, .retAddr 99), (1, .ref 0), (2, .ref 75), (3, .ref 74), (4, .int i)] []) (χ : Nat → Nat) (σ : am_M) (τ : Nat → Int64) (o : Nat → Int64) (ρ : am_M) (i : Int32) (hχ : am_chi χ) (h : L_c15 n L xs kont χ σ τ o ρ i = some true) : V c s (wL 7 18 χ σ τ o ρ) 854 [(0, .retAddr 99), (1, .ref 0), (2, .ref 75), (3, .ref 74), (4, .int i)] [] := by
  unfold L_c15 at h
  have hb0 : c ≤ room_1.cells ∧ s ≤ room_1.slots := ⟨by omega, by omega⟩
  have hb1 : c + 1 ≤ room_1.cells ∧ s + 6 ≤ room_1.slots := hb
  by_cases g1 : (i + 1) < 0 ∨ L ≤ (i + 1).toNatClampNeg
  · rw [if_pos g1] at h; cases h
  rw [if_neg g1] at h
  refine hV.run 5 [] (ws' := wL 7 18 χ σ τ o ρ) (pc' := 860) (ls' := [(0, .retAddr 99), (1, .ref 0), (2, .ref 75), (3, .ref 74), (4, .int i)]) (st' := [.int (i + 1), .retAddr 99, .ref 0]) (ps := []) rfl trivial ?_
  refine hV.sd g1 rfl rfl ?_
  by_cases g2 : (i + 2) < 0 ∨ L ≤ (i + 2).toNatClampNeg
  · rw [if_pos g2] at h; cases h
  rw [if_neg g2] at h
  refine hV.run 4 [] (ws' := wL 7 18 χ σ τ o ρ) (pc' := 866) (ls' := [(0, .retAddr 99), (1, .ref 0), (2, .ref 75), (3, .ref 74), (4, .int i)]) (st' := [.int (i + 2), .retAddr 99, .int (xs (i + 1).toNatClampNeg), .ref 0]) (ps := []) rfl trivial ?_
  refine hV.sd g2 rfl rfl ?_
  refine hV.run 1 [] (ws' := wL 7 18 χ σ τ o ρ) (pc' := 868) (ls' := [(0, .retAddr 99), (1, .ref 0), (2, .ref 75), (3, .ref 74), (4, .int i)]) (st' := [.ref 74, .int (xs (i + 2).toNatClampNeg), .int (xs (i + 1).toNatClampNeg), .ref 0]) (ps := []) rfl trivial ?_
  obtain ⟨q3, hq3, h⟩ := am_bind h
  refine hV.cS (n := 4) (as := [.ref 0, .int (xs (i + 1).toNatClampNeg), .int (xs (i + 2).toNatClampNeg), .ref 74]) (rest := []) (st := [.ref 74, .int (xs (i + 2).toNatClampNeg), .int (xs (i + 1).toNatClampNeg), .ref 0]) (pc2 := 871) (c_L_of l hst n σ τ χ o (xs (i + 1).toNatClampNeg) (xs (i + 2).toNatClampNeg) q3 hq3 hχ) (am_wd 1284 (by decide +kernel) rfl) (am_wd 174 (by decide +kernel) rfl) (am_wd 1283 (by decide +kernel) rfl) (am_wd 1282 (by decide +kernel) rfl) ⟨by decide +kernel, by decide +kernel, by decide +kernel⟩ rfl rfl rfl hb rfl (by decide) (by decide) hχ hχ rfl rfl rfl rfl ?_
  refine hV.run 6 [] (ws' := wL 7 18 χ σ τ (hO id o q3) ρ) (pc' := 879) (ls' := [(5, .int (hR q3)), (0, .retAddr 99), (1, .ref 0), (2, .ref 75), (3, .ref 74), (4, .int i)]) (st' := [.int (i + 1), .retAddr 99, .ref 75]) (ps := []) rfl trivial ?_
  refine hV.sd g1 rfl rfl ?_
  refine hV.run 4 [] (ws' := wL 7 18 χ σ τ (hO id o q3) ρ) (pc' := 885) (ls' := [(5, .int (hR q3)), (0, .retAddr 99), (1, .ref 0), (2, .ref 75), (3, .ref 74), (4, .int i)]) (st' := [.int (i + 2), .retAddr 99, .int (xs (i + 1).toNatClampNeg), .ref 75]) (ps := []) rfl trivial ?_
  refine hV.sd g2 rfl rfl ?_
  obtain ⟨q4, hq4, h⟩ := am_bind h
  refine hV.cM (as := [.int (xs (i + 1).toNatClampNeg), .int (xs (i + 2).toNatClampNeg)]) (rest := []) (st := [.int (xs (i + 2).toNatClampNeg), .int (xs (i + 1).toNatClampNeg), .ref 75]) (pc2 := 889) kL_125 (am_wd 1909 (by decide +kernel) rfl) (c_X8_of l ρ (xs (i + 1).toNatClampNeg) (xs (i + 2).toNatClampNeg) q4 hq4) rfl rfl rfl rfl hb1 rfl rfl rfl rfl rfl ?_
  refine hV.run 2 [] (ws' := wL 7 18 χ σ τ (hO id o q3) q4.2) (pc' := 892) (ls' := [(6, .int q4.1), (5, .int (hR q3)), (0, .retAddr 99), (1, .ref 0), (2, .ref 75), (3, .ref 74), (4, .int i)]) (st' := [.ref 75]) (ps := []) rfl trivial ?_
  refine hV.cM (as := []) (rest := []) (st := [.ref 75]) (pc2 := 895) kL_68 (am_wd 1559 (by decide +kernel) rfl) (c_X8_thrown l q4.2) rfl rfl rfl rfl hb1 rfl rfl rfl rfl rfl ?_
  by_cases c5 : (X8_thrown q4.2) = (hR q3)
  · rw [if_pos c5] at h
    by_cases c6 : (hR q3) = 0
    · rw [if_pos c6] at h
      by_cases c7 : (lg_cmp ((hO id o q3) (0 : Int32).toNatClampNeg) q4.1.toInt64) = 0
      · rw [if_pos c7] at h
        refine hV.run 14 [1, 0, 1] (ws' := wL 7 18 χ σ τ (hO id o q3) q4.2) (pc' := 23) (ls' := [(4, .int (i + 6)), (6, .int q4.1), (5, .int (hR q3)), (0, .retAddr 99), (1, .ref 0), (2, .ref 75), (3, .ref 74)]) (st' := []) (ps := [(X8_thrown q4.2) = (hR q3), (hR q3) = 0, vp_in 0 1, (lg_cmp ((hO id o q3) (0 : Int32).toNatClampNeg) q4.1.toInt64) = 0]) rfl ⟨c5, c6, (am_inc (by decide)), c7, trivial⟩ ?_
        refine hV.pk [3, 4, 5, 6, 0] (ls' := [(0, .retAddr 99), (1, .ref 0), (2, .ref 75), (3, .ref 74), (4, .int (i + 6))]) rfl ?_
        exact hk χ σ τ (hO id o q3) q4.2 (i + 6) _ _ (by omega) (by omega) hχ h
      · rw [if_neg c7] at h
        cases h
    · rw [if_neg c6] at h
      refine hV.run 7 [1, 1] (ws' := wL 7 18 χ σ τ (hO id o q3) q4.2) (pc' := 23) (ls' := [(4, .int (i + 6)), (6, .int q4.1), (5, .int (hR q3)), (0, .retAddr 99), (1, .ref 0), (2, .ref 75), (3, .ref 74)]) (st' := []) (ps := [(X8_thrown q4.2) = (hR q3), ¬ (hR q3) = 0]) rfl ⟨c5, c6, trivial⟩ ?_
      refine hV.pk [3, 4, 5, 6, 0] (ls' := [(0, .retAddr 99), (1, .ref 0), (2, .ref 75), (3, .ref 74), (4, .int (i + 6))]) rfl ?_
      exact hk χ σ τ (hO id o q3) q4.2 (i + 6) _ _ (by omega) (by omega) hχ h
  · rw [if_neg c5] at h
    cases h
def L_c16 (n L : Nat) (xs : Nat → Int32) (kont : (Nat → Nat) → am_M → (Nat → Int64) → (Nat → Int64) → am_M → Int32 → Option Bool) (χ : Nat → Nat) (σ : am_M) (τ : Nat → Int64) (o : Nat → Int64) (ρ : am_M) (i : Int32) : Option Bool := if (i + 1) < 0 ∨ L ≤ (i + 1).toNatClampNeg then none else (X7_ring σ (xs (i + 1).toNatClampNeg)).bind (fun q2 => (X8_ring ρ (xs (i + 1).toNatClampNeg)).bind (fun q3 => if (X8_thrown q3.2) = (hR q2) then (if (hR q2) = 0 then (if (lg_cmp ((hO id o q2) (0 : Int32).toNatClampNeg) q3.1.toInt64) = 0 then (kont χ σ τ (hO id o q2) q3.2 (i + 6)) else (some false)) else (kont χ σ τ (hO id o q2) q3.2 (i + 6))) else (some false)))
set_option maxRecDepth 100000 in
set_option maxHeartbeats 4000000 in
theorem p_L_c16 {l : Launch} (hst : l.stackTraces = false) {L : Nat} {xs : Nat → Int32} {V : Nat → Nat → am_VT} (hV : am_BL l (am_cdT' tL_law) L xs V) (n : Nat) {c s : Nat} (hb : c + 1 ≤ room_1.cells ∧ s + 6 ≤ room_1.slots) (kont : (Nat → Nat) → am_M → (Nat → Int64) → (Nat → Int64) → am_M → Int32 → Option Bool) (hk : ∀ (χ : Nat → Nat) (σ : am_M) (τ : Nat → Int64) (o : Nat → Int64) (ρ : am_M) (i : Int32) (c' s' : Nat), c' ≤ c + 1 → s' ≤ s + 6 → am_chi χ → kont χ σ τ o ρ i = some true → V c' s' (wL 7 18 χ σ τ o ρ) 23 [(0, .retAddr 99), (1, .ref 0), (2, .ref 75), (3, .ref 74), (4, .int i)] []) (χ : Nat → Nat) (σ : am_M) (τ : Nat → Int64) (o : Nat → Int64) (ρ : am_M) (i : Int32) (hχ : am_chi χ) (h : L_c16 n L xs kont χ σ τ o ρ i = some true) : V c s (wL 7 18 χ σ τ o ρ) 922 [(0, .retAddr 99), (1, .ref 0), (2, .ref 75), (3, .ref 74), (4, .int i)] [] := by
  unfold L_c16 at h
  have hb0 : c ≤ room_1.cells ∧ s ≤ room_1.slots := ⟨by omega, by omega⟩
  have hb1 : c + 1 ≤ room_1.cells ∧ s + 6 ≤ room_1.slots := hb
  by_cases g1 : (i + 1) < 0 ∨ L ≤ (i + 1).toNatClampNeg
  · rw [if_pos g1] at h; cases h
  rw [if_neg g1] at h
  refine hV.run 5 [] (ws' := wL 7 18 χ σ τ o ρ) (pc' := 928) (ls' := [(0, .retAddr 99), (1, .ref 0), (2, .ref 75), (3, .ref 74), (4, .int i)]) (st' := [.int (i + 1), .retAddr 99, .ref 0]) (ps := []) rfl trivial ?_
  refine hV.sd g1 rfl rfl ?_
  refine hV.run 1 [] (ws' := wL 7 18 χ σ τ o ρ) (pc' := 930) (ls' := [(0, .retAddr 99), (1, .ref 0), (2, .ref 75), (3, .ref 74), (4, .int i)]) (st' := [.ref 74, .int (xs (i + 1).toNatClampNeg), .ref 0]) (ps := []) rfl trivial ?_
  obtain ⟨q2, hq2, h⟩ := am_bind h
  refine hV.cS (n := 3) (as := [.ref 0, .int (xs (i + 1).toNatClampNeg), .ref 74]) (rest := []) (st := [.ref 74, .int (xs (i + 1).toNatClampNeg), .ref 0]) (pc2 := 933) (c_L_ring l hst n σ τ χ o (xs (i + 1).toNatClampNeg) q2 hq2 hχ) (am_wd 1297 (by decide +kernel) rfl) (am_wd 174 (by decide +kernel) rfl) (am_wd 1296 (by decide +kernel) rfl) (am_wd 1295 (by decide +kernel) rfl) ⟨by decide +kernel, by decide +kernel, by decide +kernel⟩ rfl rfl rfl hb rfl (by decide) (by decide) hχ hχ rfl rfl rfl rfl ?_
  refine hV.run 6 [] (ws' := wL 7 18 χ σ τ (hO id o q2) ρ) (pc' := 941) (ls' := [(5, .int (hR q2)), (0, .retAddr 99), (1, .ref 0), (2, .ref 75), (3, .ref 74), (4, .int i)]) (st' := [.int (i + 1), .retAddr 99, .ref 75]) (ps := []) rfl trivial ?_
  refine hV.sd g1 rfl rfl ?_
  obtain ⟨q3, hq3, h⟩ := am_bind h
  refine hV.cM (as := [.int (xs (i + 1).toNatClampNeg)]) (rest := []) (st := [.int (xs (i + 1).toNatClampNeg), .ref 75]) (pc2 := 945) kL_128 (am_wd 1917 (by decide +kernel) rfl) (c_X8_ring l ρ (xs (i + 1).toNatClampNeg) q3 hq3) rfl rfl rfl rfl hb1 rfl rfl rfl rfl rfl ?_
  refine hV.run 2 [] (ws' := wL 7 18 χ σ τ (hO id o q2) q3.2) (pc' := 948) (ls' := [(6, .int q3.1), (5, .int (hR q2)), (0, .retAddr 99), (1, .ref 0), (2, .ref 75), (3, .ref 74), (4, .int i)]) (st' := [.ref 75]) (ps := []) rfl trivial ?_
  refine hV.cM (as := []) (rest := []) (st := [.ref 75]) (pc2 := 951) kL_68 (am_wd 1559 (by decide +kernel) rfl) (c_X8_thrown l q3.2) rfl rfl rfl rfl hb1 rfl rfl rfl rfl rfl ?_
  by_cases c4 : (X8_thrown q3.2) = (hR q2)
  · rw [if_pos c4] at h
    by_cases c5 : (hR q2) = 0
    · rw [if_pos c5] at h
      by_cases c6 : (lg_cmp ((hO id o q2) (0 : Int32).toNatClampNeg) q3.1.toInt64) = 0
      · rw [if_pos c6] at h
        refine hV.run 14 [1, 0, 1] (ws' := wL 7 18 χ σ τ (hO id o q2) q3.2) (pc' := 23) (ls' := [(4, .int (i + 6)), (6, .int q3.1), (5, .int (hR q2)), (0, .retAddr 99), (1, .ref 0), (2, .ref 75), (3, .ref 74)]) (st' := []) (ps := [(X8_thrown q3.2) = (hR q2), (hR q2) = 0, vp_in 0 1, (lg_cmp ((hO id o q2) (0 : Int32).toNatClampNeg) q3.1.toInt64) = 0]) rfl ⟨c4, c5, (am_inc (by decide)), c6, trivial⟩ ?_
        refine hV.pk [3, 4, 5, 6, 0] (ls' := [(0, .retAddr 99), (1, .ref 0), (2, .ref 75), (3, .ref 74), (4, .int (i + 6))]) rfl ?_
        exact hk χ σ τ (hO id o q2) q3.2 (i + 6) _ _ (by omega) (by omega) hχ h
      · rw [if_neg c6] at h
        cases h
    · rw [if_neg c5] at h
      refine hV.run 7 [1, 1] (ws' := wL 7 18 χ σ τ (hO id o q2) q3.2) (pc' := 23) (ls' := [(4, .int (i + 6)), (6, .int q3.1), (5, .int (hR q2)), (0, .retAddr 99), (1, .ref 0), (2, .ref 75), (3, .ref 74)]) (st' := []) (ps := [(X8_thrown q3.2) = (hR q2), ¬ (hR q2) = 0]) rfl ⟨c4, c5, trivial⟩ ?_
      refine hV.pk [3, 4, 5, 6, 0] (ls' := [(0, .retAddr 99), (1, .ref 0), (2, .ref 75), (3, .ref 74), (4, .int (i + 6))]) rfl ?_
      exact hk χ σ τ (hO id o q2) q3.2 (i + 6) _ _ (by omega) (by omega) hχ h
  · rw [if_neg c4] at h
    cases h
def L_c17 (n L : Nat) (xs : Nat → Int32) (kont : (Nat → Nat) → am_M → (Nat → Int64) → (Nat → Int64) → am_M → Int32 → Option Bool) (χ : Nat → Nat) (σ : am_M) (τ : Nat → Int64) (o : Nat → Int64) (ρ : am_M) (i : Int32) : Option Bool := if (i + 1) < 0 ∨ L ≤ (i + 1).toNatClampNeg then none else (X7_chose σ (xs (i + 1).toNatClampNeg)).bind (fun q2 => (X8_chose ρ (xs (i + 1).toNatClampNeg)).bind (fun q3 => if (X8_thrown q3.2) = (hR q2) then (if (hR q2) = 0 then (if (lg_cmp ((hO id o q2) (0 : Int32).toNatClampNeg) q3.1.toInt64) = 0 then (kont χ σ τ (hO id o q2) q3.2 (i + 6)) else (some false)) else (kont χ σ τ (hO id o q2) q3.2 (i + 6))) else (some false)))
set_option maxRecDepth 100000 in
set_option maxHeartbeats 4000000 in
theorem p_L_c17 {l : Launch} (hst : l.stackTraces = false) {L : Nat} {xs : Nat → Int32} {V : Nat → Nat → am_VT} (hV : am_BL l (am_cdT' tL_law) L xs V) (n : Nat) {c s : Nat} (hb : c + 1 ≤ room_1.cells ∧ s + 6 ≤ room_1.slots) (kont : (Nat → Nat) → am_M → (Nat → Int64) → (Nat → Int64) → am_M → Int32 → Option Bool) (hk : ∀ (χ : Nat → Nat) (σ : am_M) (τ : Nat → Int64) (o : Nat → Int64) (ρ : am_M) (i : Int32) (c' s' : Nat), c' ≤ c + 1 → s' ≤ s + 6 → am_chi χ → kont χ σ τ o ρ i = some true → V c' s' (wL 7 18 χ σ τ o ρ) 23 [(0, .retAddr 99), (1, .ref 0), (2, .ref 75), (3, .ref 74), (4, .int i)] []) (χ : Nat → Nat) (σ : am_M) (τ : Nat → Int64) (o : Nat → Int64) (ρ : am_M) (i : Int32) (hχ : am_chi χ) (h : L_c17 n L xs kont χ σ τ o ρ i = some true) : V c s (wL 7 18 χ σ τ o ρ) 978 [(0, .retAddr 99), (1, .ref 0), (2, .ref 75), (3, .ref 74), (4, .int i)] [] := by
  unfold L_c17 at h
  have hb0 : c ≤ room_1.cells ∧ s ≤ room_1.slots := ⟨by omega, by omega⟩
  have hb1 : c + 1 ≤ room_1.cells ∧ s + 6 ≤ room_1.slots := hb
  by_cases g1 : (i + 1) < 0 ∨ L ≤ (i + 1).toNatClampNeg
  · rw [if_pos g1] at h; cases h
  rw [if_neg g1] at h
  refine hV.run 5 [] (ws' := wL 7 18 χ σ τ o ρ) (pc' := 984) (ls' := [(0, .retAddr 99), (1, .ref 0), (2, .ref 75), (3, .ref 74), (4, .int i)]) (st' := [.int (i + 1), .retAddr 99, .ref 0]) (ps := []) rfl trivial ?_
  refine hV.sd g1 rfl rfl ?_
  refine hV.run 1 [] (ws' := wL 7 18 χ σ τ o ρ) (pc' := 986) (ls' := [(0, .retAddr 99), (1, .ref 0), (2, .ref 75), (3, .ref 74), (4, .int i)]) (st' := [.ref 74, .int (xs (i + 1).toNatClampNeg), .ref 0]) (ps := []) rfl trivial ?_
  obtain ⟨q2, hq2, h⟩ := am_bind h
  refine hV.cS (n := 3) (as := [.ref 0, .int (xs (i + 1).toNatClampNeg), .ref 74]) (rest := []) (st := [.ref 74, .int (xs (i + 1).toNatClampNeg), .ref 0]) (pc2 := 989) (c_L_chose l hst n σ τ χ o (xs (i + 1).toNatClampNeg) q2 hq2 hχ) (am_wd 1306 (by decide +kernel) rfl) (am_wd 174 (by decide +kernel) rfl) (am_wd 1305 (by decide +kernel) rfl) (am_wd 1304 (by decide +kernel) rfl) ⟨by decide +kernel, by decide +kernel, by decide +kernel⟩ rfl rfl rfl hb rfl (by decide) (by decide) hχ hχ rfl rfl rfl rfl ?_
  refine hV.run 6 [] (ws' := wL 7 18 χ σ τ (hO id o q2) ρ) (pc' := 997) (ls' := [(5, .int (hR q2)), (0, .retAddr 99), (1, .ref 0), (2, .ref 75), (3, .ref 74), (4, .int i)]) (st' := [.int (i + 1), .retAddr 99, .ref 75]) (ps := []) rfl trivial ?_
  refine hV.sd g1 rfl rfl ?_
  obtain ⟨q3, hq3, h⟩ := am_bind h
  refine hV.cM (as := [.int (xs (i + 1).toNatClampNeg)]) (rest := []) (st := [.int (xs (i + 1).toNatClampNeg), .ref 75]) (pc2 := 1001) kL_131 (am_wd 1921 (by decide +kernel) rfl) (c_X8_chose l ρ (xs (i + 1).toNatClampNeg) q3 hq3) rfl rfl rfl rfl hb1 rfl rfl rfl rfl rfl ?_
  refine hV.run 2 [] (ws' := wL 7 18 χ σ τ (hO id o q2) q3.2) (pc' := 1004) (ls' := [(6, .int q3.1), (5, .int (hR q2)), (0, .retAddr 99), (1, .ref 0), (2, .ref 75), (3, .ref 74), (4, .int i)]) (st' := [.ref 75]) (ps := []) rfl trivial ?_
  refine hV.cM (as := []) (rest := []) (st := [.ref 75]) (pc2 := 1007) kL_68 (am_wd 1559 (by decide +kernel) rfl) (c_X8_thrown l q3.2) rfl rfl rfl rfl hb1 rfl rfl rfl rfl rfl ?_
  by_cases c4 : (X8_thrown q3.2) = (hR q2)
  · rw [if_pos c4] at h
    by_cases c5 : (hR q2) = 0
    · rw [if_pos c5] at h
      by_cases c6 : (lg_cmp ((hO id o q2) (0 : Int32).toNatClampNeg) q3.1.toInt64) = 0
      · rw [if_pos c6] at h
        refine hV.run 14 [1, 0, 1] (ws' := wL 7 18 χ σ τ (hO id o q2) q3.2) (pc' := 23) (ls' := [(4, .int (i + 6)), (6, .int q3.1), (5, .int (hR q2)), (0, .retAddr 99), (1, .ref 0), (2, .ref 75), (3, .ref 74)]) (st' := []) (ps := [(X8_thrown q3.2) = (hR q2), (hR q2) = 0, vp_in 0 1, (lg_cmp ((hO id o q2) (0 : Int32).toNatClampNeg) q3.1.toInt64) = 0]) rfl ⟨c4, c5, (am_inc (by decide)), c6, trivial⟩ ?_
        refine hV.pk [3, 4, 5, 6, 0] (ls' := [(0, .retAddr 99), (1, .ref 0), (2, .ref 75), (3, .ref 74), (4, .int (i + 6))]) rfl ?_
        exact hk χ σ τ (hO id o q2) q3.2 (i + 6) _ _ (by omega) (by omega) hχ h
      · rw [if_neg c6] at h
        cases h
    · rw [if_neg c5] at h
      refine hV.run 7 [1, 1] (ws' := wL 7 18 χ σ τ (hO id o q2) q3.2) (pc' := 23) (ls' := [(4, .int (i + 6)), (6, .int q3.1), (5, .int (hR q2)), (0, .retAddr 99), (1, .ref 0), (2, .ref 75), (3, .ref 74)]) (st' := []) (ps := [(X8_thrown q3.2) = (hR q2), ¬ (hR q2) = 0]) rfl ⟨c4, c5, trivial⟩ ?_
      refine hV.pk [3, 4, 5, 6, 0] (ls' := [(0, .retAddr 99), (1, .ref 0), (2, .ref 75), (3, .ref 74), (4, .int (i + 6))]) rfl ?_
      exact hk χ σ τ (hO id o q2) q3.2 (i + 6) _ _ (by omega) (by omega) hχ h
  · rw [if_neg c4] at h
    cases h
def L_c18 (n L : Nat) (xs : Nat → Int32) (kont : (Nat → Nat) → am_M → (Nat → Int64) → (Nat → Int64) → am_M → Int32 → Option Bool) (χ : Nat → Nat) (σ : am_M) (τ : Nat → Int64) (o : Nat → Int64) (ρ : am_M) (i : Int32) : Option Bool := if (i + 1) < 0 ∨ L ≤ (i + 1).toNatClampNeg then none else (X7_least n σ τ χ (xs (i + 1).toNatClampNeg)).bind (fun q2 => if ¬ am_chib q2.2.2.2 = true then none else (X8_least n ρ (xs (i + 1).toNatClampNeg)).bind (fun q4 => if (X8_thrown q4.2) = (hR q2.1) then (if (hR q2.1) = 0 then (if (lg_cmp ((hO id o q2.1) (0 : Int32).toNatClampNeg) q4.1.toInt64) = 0 then (kont q2.2.2.2 q2.2.1 q2.2.2.1 (hO id o q2.1) q4.2 (i + 6)) else (some false)) else (kont q2.2.2.2 q2.2.1 q2.2.2.1 (hO id o q2.1) q4.2 (i + 6))) else (some false)))
set_option maxRecDepth 100000 in
set_option maxHeartbeats 4000000 in
theorem p_L_c18 {l : Launch} (hst : l.stackTraces = false) {L : Nat} {xs : Nat → Int32} {V : Nat → Nat → am_VT} (hV : am_BL l (am_cdT' tL_law) L xs V) (n : Nat) {c s : Nat} (hb : c + 1 ≤ room_1.cells ∧ s + 6 ≤ room_1.slots) (kont : (Nat → Nat) → am_M → (Nat → Int64) → (Nat → Int64) → am_M → Int32 → Option Bool) (hk : ∀ (χ : Nat → Nat) (σ : am_M) (τ : Nat → Int64) (o : Nat → Int64) (ρ : am_M) (i : Int32) (c' s' : Nat), c' ≤ c + 1 → s' ≤ s + 6 → am_chi χ → kont χ σ τ o ρ i = some true → V c' s' (wL 7 18 χ σ τ o ρ) 23 [(0, .retAddr 99), (1, .ref 0), (2, .ref 75), (3, .ref 74), (4, .int i)] []) (χ : Nat → Nat) (σ : am_M) (τ : Nat → Int64) (o : Nat → Int64) (ρ : am_M) (i : Int32) (hχ : am_chi χ) (h : L_c18 n L xs kont χ σ τ o ρ i = some true) : V c s (wL 7 18 χ σ τ o ρ) 1034 [(0, .retAddr 99), (1, .ref 0), (2, .ref 75), (3, .ref 74), (4, .int i)] [] := by
  unfold L_c18 at h
  have hb0 : c ≤ room_1.cells ∧ s ≤ room_1.slots := ⟨by omega, by omega⟩
  have hb1 : c + 1 ≤ room_1.cells ∧ s + 6 ≤ room_1.slots := hb
  by_cases g1 : (i + 1) < 0 ∨ L ≤ (i + 1).toNatClampNeg
  · rw [if_pos g1] at h; cases h
  rw [if_neg g1] at h
  refine hV.run 5 [] (ws' := wL 7 18 χ σ τ o ρ) (pc' := 1040) (ls' := [(0, .retAddr 99), (1, .ref 0), (2, .ref 75), (3, .ref 74), (4, .int i)]) (st' := [.int (i + 1), .retAddr 99, .ref 0]) (ps := []) rfl trivial ?_
  refine hV.sd g1 rfl rfl ?_
  refine hV.run 1 [] (ws' := wL 7 18 χ σ τ o ρ) (pc' := 1042) (ls' := [(0, .retAddr 99), (1, .ref 0), (2, .ref 75), (3, .ref 74), (4, .int i)]) (st' := [.ref 74, .int (xs (i + 1).toNatClampNeg), .ref 0]) (ps := []) rfl trivial ?_
  obtain ⟨q2, hq2, h⟩ := am_bind h
  by_cases g3 : ¬ am_chib q2.2.2.2 = true
  · rw [if_pos g3] at h; cases h
  rw [if_neg g3] at h
  refine hV.cS (n := 3) (as := [.ref 0, .int (xs (i + 1).toNatClampNeg), .ref 74]) (rest := []) (st := [.ref 74, .int (xs (i + 1).toNatClampNeg), .ref 0]) (pc2 := 1045) (c_L_least l hst n σ τ χ o (xs (i + 1).toNatClampNeg) q2 hq2 hχ (am_chib_ok (Classical.not_not.mp g3))) (am_wd 1314 (by decide +kernel) rfl) (am_wd 174 (by decide +kernel) rfl) (am_wd 1313 (by decide +kernel) rfl) (am_wd 1312 (by decide +kernel) rfl) ⟨by decide +kernel, by decide +kernel, by decide +kernel⟩ rfl rfl rfl hb rfl (by decide) (by decide) hχ (am_chib_ok (Classical.not_not.mp g3)) rfl rfl rfl rfl ?_
  refine hV.run 6 [] (ws' := wL 7 18 q2.2.2.2 q2.2.1 q2.2.2.1 (hO id o q2.1) ρ) (pc' := 1053) (ls' := [(5, .int (hR q2.1)), (0, .retAddr 99), (1, .ref 0), (2, .ref 75), (3, .ref 74), (4, .int i)]) (st' := [.int (i + 1), .retAddr 99, .ref 75]) (ps := []) rfl trivial ?_
  refine hV.sd g1 rfl rfl ?_
  obtain ⟨q4, hq4, h⟩ := am_bind h
  refine hV.cM (as := [.int (xs (i + 1).toNatClampNeg)]) (rest := []) (st := [.int (xs (i + 1).toNatClampNeg), .ref 75]) (pc2 := 1057) kL_134 (am_wd 1925 (by decide +kernel) rfl) (c_X8_least l n ρ (xs (i + 1).toNatClampNeg) q4 hq4) rfl rfl rfl rfl hb1 rfl rfl rfl rfl rfl ?_
  refine hV.run 2 [] (ws' := wL 7 18 q2.2.2.2 q2.2.1 q2.2.2.1 (hO id o q2.1) q4.2) (pc' := 1060) (ls' := [(6, .int q4.1), (5, .int (hR q2.1)), (0, .retAddr 99), (1, .ref 0), (2, .ref 75), (3, .ref 74), (4, .int i)]) (st' := [.ref 75]) (ps := []) rfl trivial ?_
  refine hV.cM (as := []) (rest := []) (st := [.ref 75]) (pc2 := 1063) kL_68 (am_wd 1559 (by decide +kernel) rfl) (c_X8_thrown l q4.2) rfl rfl rfl rfl hb1 rfl rfl rfl rfl rfl ?_
  by_cases c5 : (X8_thrown q4.2) = (hR q2.1)
  · rw [if_pos c5] at h
    by_cases c6 : (hR q2.1) = 0
    · rw [if_pos c6] at h
      by_cases c7 : (lg_cmp ((hO id o q2.1) (0 : Int32).toNatClampNeg) q4.1.toInt64) = 0
      · rw [if_pos c7] at h
        refine hV.run 14 [1, 0, 1] (ws' := wL 7 18 q2.2.2.2 q2.2.1 q2.2.2.1 (hO id o q2.1) q4.2) (pc' := 23) (ls' := [(4, .int (i + 6)), (6, .int q4.1), (5, .int (hR q2.1)), (0, .retAddr 99), (1, .ref 0), (2, .ref 75), (3, .ref 74)]) (st' := []) (ps := [(X8_thrown q4.2) = (hR q2.1), (hR q2.1) = 0, vp_in 0 1, (lg_cmp ((hO id o q2.1) (0 : Int32).toNatClampNeg) q4.1.toInt64) = 0]) rfl ⟨c5, c6, (am_inc (by decide)), c7, trivial⟩ ?_
        refine hV.pk [3, 4, 5, 6, 0] (ls' := [(0, .retAddr 99), (1, .ref 0), (2, .ref 75), (3, .ref 74), (4, .int (i + 6))]) rfl ?_
        exact hk q2.2.2.2 q2.2.1 q2.2.2.1 (hO id o q2.1) q4.2 (i + 6) _ _ (by omega) (by omega) (am_chib_ok (Classical.not_not.mp g3)) h
      · rw [if_neg c7] at h
        cases h
    · rw [if_neg c6] at h
      refine hV.run 7 [1, 1] (ws' := wL 7 18 q2.2.2.2 q2.2.1 q2.2.2.1 (hO id o q2.1) q4.2) (pc' := 23) (ls' := [(4, .int (i + 6)), (6, .int q4.1), (5, .int (hR q2.1)), (0, .retAddr 99), (1, .ref 0), (2, .ref 75), (3, .ref 74)]) (st' := []) (ps := [(X8_thrown q4.2) = (hR q2.1), ¬ (hR q2.1) = 0]) rfl ⟨c5, c6, trivial⟩ ?_
      refine hV.pk [3, 4, 5, 6, 0] (ls' := [(0, .retAddr 99), (1, .ref 0), (2, .ref 75), (3, .ref 74), (4, .int (i + 6))]) rfl ?_
      exact hk q2.2.2.2 q2.2.1 q2.2.2.1 (hO id o q2.1) q4.2 (i + 6) _ _ (by omega) (by omega) (am_chib_ok (Classical.not_not.mp g3)) h
  · rw [if_neg c5] at h
    cases h
