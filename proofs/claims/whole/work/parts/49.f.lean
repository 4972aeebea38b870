/-- the loop of the law: one more call of the script, or the end -/
def L_head (n L : Nat) (xs : Nat → Int32) (kont : (Nat → Nat) → am_M → (Nat → Int64) → (Nat → Int64) → am_M → Int32 → Option Bool) (χ : Nat → Nat) (σ : am_M) (τ : Nat → Int64) (o : Nat → Int64) (ρ : am_M) (i : Int32) : Option Bool := if Int32.ofNat L - 6 < i then some true else (if i < 0 ∨ L ≤ i.toNatClampNeg then none else (if (xs i.toNatClampNeg &&& 31) = 0 then L_c0 n L xs kont χ σ τ o ρ i else (if (xs i.toNatClampNeg &&& 31) = 1 then L_c1 n L xs kont χ σ τ o ρ i else (if (xs i.toNatClampNeg &&& 31) = 2 then L_c2 n L xs kont χ σ τ o ρ i else (if (xs i.toNatClampNeg &&& 31) = 3 then L_c3 n L xs kont χ σ τ o ρ i else (if (xs i.toNatClampNeg &&& 31) = 4 then L_c4 n L xs kont χ σ τ o ρ i else (if (xs i.toNatClampNeg &&& 31) = 5 then L_c5 n L xs kont χ σ τ o ρ i else (if (xs i.toNatClampNeg &&& 31) = 6 then L_c6 n L xs kont χ σ τ o ρ i else (if (xs i.toNatClampNeg &&& 31) = 7 then L_c7 n L xs kont χ σ τ o ρ i else (if (xs i.toNatClampNeg &&& 31) = 8 then L_c8 n L xs kont χ σ τ o ρ i else (if (xs i.toNatClampNeg &&& 31) = 9 then L_c9 n L xs kont χ σ τ o ρ i else (if (xs i.toNatClampNeg &&& 31) = 10 then L_c10 n L xs kont χ σ τ o ρ i else (if (xs i.toNatClampNeg &&& 31) = 11 then L_c11 n L xs kont χ σ τ o ρ i else (if (xs i.toNatClampNeg &&& 31) = 12 then L_c12 n L xs kont χ σ τ o ρ i else (if (xs i.toNatClampNeg &&& 31) = 13 then L_c13 n L xs kont χ σ τ o ρ i else (if (xs i.toNatClampNeg &&& 31) = 14 then L_c14 n L xs kont χ σ τ o ρ i else (if (xs i.toNatClampNeg &&& 31) = 15 then L_c15 n L xs kont χ σ τ o ρ i else (if (xs i.toNatClampNeg &&& 31) = 16 then L_c16 n L xs kont χ σ τ o ρ i else (if (xs i.toNatClampNeg &&& 31) = 17 then L_c17 n L xs kont χ σ τ o ρ i else (if (xs i.toNatClampNeg &&& 31) = 18 then L_c18 n L xs kont χ σ τ o ρ i else kont χ σ τ o ρ (i + 6)))))))))))))))))))))
set_option maxRecDepth 100000 in
set_option maxHeartbeats 4000000 in
theorem p_L_head {l : Launch} (hst : l.stackTraces = false) {L : Nat} {xs : Nat → Int32} {V : Nat → Nat → am_VT} (hV : am_BL l (am_cdT' tL_law) L xs V) (n : Nat) {c s : Nat} (hb : c + 1 ≤ room_1.cells ∧ s + 6 ≤ room_1.slots) (kont : (Nat → Nat) → am_M → (Nat → Int64) → (Nat → Int64) → am_M → Int32 → Option Bool) (hk : ∀ (χ : Nat → Nat) (σ : am_M) (τ : Nat → Int64) (o : Nat → Int64) (ρ : am_M) (i : Int32) (c' s' : Nat), c' ≤ c + 1 → s' ≤ s + 6 → am_chi χ → kont χ σ τ o ρ i = some true → V c' s' (wL 7 18 χ σ τ o ρ) 23 [(0, .retAddr 99), (1, .ref 0), (2, .ref 75), (3, .ref 74), (4, .int i)] []) (χ : Nat → Nat) (σ : am_M) (τ : Nat → Int64) (o : Nat → Int64) (ρ : am_M) (i : Int32) (hχ : am_chi χ) (h : L_head n L xs kont χ σ τ o ρ i = some true) : V c s (wL 7 18 χ σ τ o ρ) 23 [(0, .retAddr 99), (1, .ref 0), (2, .ref 75), (3, .ref 74), (4, .int i)] [] := by
  unfold L_head at h
  refine hV.run 2 [] (ws' := wL 7 18 χ σ τ o ρ) (pc' := 26) (ls' := [(0, .retAddr 99), (1, .ref 0), (2, .ref 75), (3, .ref 74), (4, .int i)]) (st' := [.retAddr 99, .int i]) (ps := []) rfl trivial ?_
  refine hV.sl rfl ?_
  by_cases c1 : Int32.ofNat L - 6 < i
  · refine hV.run 4 [1] (ws' := wL 7 18 χ σ τ o ρ) (pc' := 1097) (ls' := [(0, .retAddr 99), (1, .ref 0), (2, .ref 75), (3, .ref 74), (4, .int i)]) (st' := [.int 1]) (ps := [Int32.ofNat L - 6 < i]) rfl ⟨c1, trivial⟩ ?_
    exact hV.rt rfl ⟨by omega, by omega⟩
  · rw [if_neg c1] at h
    by_cases g1 : i < 0 ∨ L ≤ i.toNatClampNeg
    · rw [if_pos g1] at h; cases h
    rw [if_neg g1] at h
    refine hV.run 5 [0] (ws' := wL 7 18 χ σ τ o ρ) (pc' := 36) (ls' := [(0, .retAddr 99), (1, .ref 0), (2, .ref 75), (3, .ref 74), (4, .int i)]) (st' := [.int i, .retAddr 99]) (ps := [¬ Int32.ofNat L - 6 < i]) rfl ⟨c1, trivial⟩ ?_
    refine hV.sd g1 rfl rfl ?_
    obtain ⟨z, hz⟩ : ∃ z, xs i.toNatClampNeg &&& 31 = z := ⟨_, rfl⟩
    rw [hz] at h
    by_cases k0 : z = 0
    · rw [if_pos k0] at h
      refine hV.run 3 [1] (ws' := wL 7 18 χ σ τ o ρ) (pc' := 132) (ls' := [(0, .retAddr 99), (1, .ref 0), (2, .ref 75), (3, .ref 74), (4, .int i)]) (st' := []) (ps := [(xs i.toNatClampNeg &&& 31).toInt = 0 + ((0 : Nat) : Int), 0 < 19, ¬ 18 < (xs i.toNatClampNeg &&& 31).toInt]) rfl ⟨by rw [hz, k0]; decide, by decide, by rw [hz, k0]; decide, trivial⟩ ?_
      exact p_L_c0 hst hV n hb kont hk χ σ τ o ρ i hχ h
    rw [if_neg k0] at h
    by_cases k1 : z = 1
    · rw [if_pos k1] at h
      refine hV.run 3 [2] (ws' := wL 7 18 χ σ τ o ρ) (pc' := 205) (ls' := [(0, .retAddr 99), (1, .ref 0), (2, .ref 75), (3, .ref 74), (4, .int i)]) (st' := []) (ps := [(xs i.toNatClampNeg &&& 31).toInt = 0 + ((1 : Nat) : Int), 1 < 19, ¬ 18 < (xs i.toNatClampNeg &&& 31).toInt]) rfl ⟨by rw [hz, k1]; decide, by decide, by rw [hz, k1]; decide, trivial⟩ ?_
      exact p_L_c1 hst hV n hb kont hk χ σ τ o ρ i hχ h
    rw [if_neg k1] at h
    by_cases k2 : z = 2
    · rw [if_pos k2] at h
      refine hV.run 3 [3] (ws' := wL 7 18 χ σ τ o ρ) (pc' := 261) (ls' := [(0, .retAddr 99), (1, .ref 0), (2, .ref 75), (3, .ref 74), (4, .int i)]) (st' := []) (ps := [(xs i.toNatClampNeg &&& 31).toInt = 0 + ((2 : Nat) : Int), 2 < 19, ¬ 18 < (xs i.toNatClampNeg &&& 31).toInt]) rfl ⟨by rw [hz, k2]; decide, by decide, by rw [hz, k2]; decide, trivial⟩ ?_
      exact p_L_c2 hst hV n hb kont hk χ σ τ o ρ i hχ h
    rw [if_neg k2] at h
    by_cases k3 : z = 3
    · rw [if_pos k3] at h
      refine hV.run 3 [4] (ws' := wL 7 18 χ σ τ o ρ) (pc' := 274) (ls' := [(0, .retAddr 99), (1, .ref 0), (2, .ref 75), (3, .ref 74), (4, .int i)]) (st' := []) (ps := [(xs i.toNatClampNeg &&& 31).toInt = 0 + ((3 : Nat) : Int), 3 < 19, ¬ 18 < (xs i.toNatClampNeg &&& 31).toInt]) rfl ⟨by rw [hz, k3]; decide, by decide, by rw [hz, k3]; decide, trivial⟩ ?_
      exact p_L_c3 hst hV n hb kont hk χ σ τ o ρ i hχ h
    rw [if_neg k3] at h
    by_cases k4 : z = 4
    · rw [if_pos k4] at h
      refine hV.run 3 [5] (ws' := wL 7 18 χ σ τ o ρ) (pc' := 335) (ls' := [(0, .retAddr 99), (1, .ref 0), (2, .ref 75), (3, .ref 74), (4, .int i)]) (st' := []) (ps := [(xs i.toNatClampNeg &&& 31).toInt = 0 + ((4 : Nat) : Int), 4 < 19, ¬ 18 < (xs i.toNatClampNeg &&& 31).toInt]) rfl ⟨by rw [hz, k4]; decide, by decide, by rw [hz, k4]; decide, trivial⟩ ?_
      exact p_L_c4 hst hV n hb kont hk χ σ τ o ρ i hχ h
    rw [if_neg k4] at h
    by_cases k5 : z = 5
    · rw [if_pos k5] at h
      refine hV.run 3 [6] (ws' := wL 7 18 χ σ τ o ρ) (pc' := 391) (ls' := [(0, .retAddr 99), (1, .ref 0), (2, .ref 75), (3, .ref 74), (4, .int i)]) (st' := []) (ps := [(xs i.toNatClampNeg &&& 31).toInt = 0 + ((5 : Nat) : Int), 5 < 19, ¬ 18 < (xs i.toNatClampNeg &&& 31).toInt]) rfl ⟨by rw [hz, k5]; decide, by decide, by rw [hz, k5]; decide, trivial⟩ ?_
      exact p_L_c5 hst hV n hb kont hk χ σ τ o ρ i hχ h
    rw [if_neg k5] at h
    by_cases k6 : z = 6
    · rw [if_pos k6] at h
      refine hV.run 3 [7] (ws' := wL 7 18 χ σ τ o ρ) (pc' := 447) (ls' := [(0, .retAddr 99), (1, .ref 0), (2, .ref 75), (3, .ref 74), (4, .int i)]) (st' := []) (ps := [(xs i.toNatClampNeg &&& 31).toInt = 0 + ((6 : Nat) : Int), 6 < 19, ¬ 18 < (xs i.toNatClampNeg &&& 31).toInt]) rfl ⟨by rw [hz, k6]; decide, by decide, by rw [hz, k6]; decide, trivial⟩ ?_
      exact p_L_c6 hst hV n hb kont hk χ σ τ o ρ i hχ h
    rw [if_neg k6] at h
    by_cases k7 : z = 7
    · rw [if_pos k7] at h
      refine hV.run 3 [8] (ws' := wL 7 18 χ σ τ o ρ) (pc' := 460) (ls' := [(0, .retAddr 99), (1, .ref 0), (2, .ref 75), (3, .ref 74), (4, .int i)]) (st' := []) (ps := [(xs i.toNatClampNeg &&& 31).toInt = 0 + ((7 : Nat) : Int), 7 < 19, ¬ 18 < (xs i.toNatClampNeg &&& 31).toInt]) rfl ⟨by rw [hz, k7]; decide, by decide, by rw [hz, k7]; decide, trivial⟩ ?_
      exact p_L_c7 hst hV n hb kont hk χ σ τ o ρ i hχ h
    rw [if_neg k7] at h
    by_cases k8 : z = 8
    · rw [if_pos k8] at h
      refine hV.run 3 [9] (ws' := wL 7 18 χ σ τ o ρ) (pc' := 516) (ls' := [(0, .retAddr 99), (1, .ref 0), (2, .ref 75), (3, .ref 74), (4, .int i)]) (st' := []) (ps := [(xs i.toNatClampNeg &&& 31).toInt = 0 + ((8 : Nat) : Int), 8 < 19, ¬ 18 < (xs i.toNatClampNeg &&& 31).toInt]) rfl ⟨by rw [hz, k8]; decide, by decide, by rw [hz, k8]; decide, trivial⟩ ?_
      exact p_L_c8 hst hV n hb kont hk χ σ τ o ρ i hχ h
    rw [if_neg k8] at h
    by_cases k9 : z = 9
    · rw [if_pos k9] at h
      refine hV.run 3 [10] (ws' := wL 7 18 χ σ τ o ρ) (pc' := 584) (ls' := [(0, .retAddr 99), (1, .ref 0), (2, .ref 75), (3, .ref 74), (4, .int i)]) (st' := []) (ps := [(xs i.toNatClampNeg &&& 31).toInt = 0 + ((9 : Nat) : Int), 9 < 19, ¬ 18 < (xs i.toNatClampNeg &&& 31).toInt]) rfl ⟨by rw [hz, k9]; decide, by decide, by rw [hz, k9]; decide, trivial⟩ ?_
      exact p_L_c9 hst hV n hb kont hk χ σ τ o ρ i hχ h
    rw [if_neg k9] at h
    by_cases k10 : z = 10
    · rw [if_pos k10] at h
      refine hV.run 3 [11] (ws' := wL 7 18 χ σ τ o ρ) (pc' := 597) (ls' := [(0, .retAddr 99), (1, .ref 0), (2, .ref 75), (3, .ref 74), (4, .int i)]) (st' := []) (ps := [(xs i.toNatClampNeg &&& 31).toInt = 0 + ((10 : Nat) : Int), 10 < 19, ¬ 18 < (xs i.toNatClampNeg &&& 31).toInt]) rfl ⟨by rw [hz, k10]; decide, by decide, by rw [hz, k10]; decide, trivial⟩ ?_
      exact p_L_c10 hst hV n hb kont hk χ σ τ o ρ i hχ h
    rw [if_neg k10] at h
    by_cases k11 : z = 11
    · rw [if_pos k11] at h
      refine hV.run 3 [12] (ws' := wL 7 18 χ σ τ o ρ) (pc' := 665) (ls' := [(0, .retAddr 99), (1, .ref 0), (2, .ref 75), (3, .ref 74), (4, .int i)]) (st' := []) (ps := [(xs i.toNatClampNeg &&& 31).toInt = 0 + ((11 : Nat) : Int), 11 < 19, ¬ 18 < (xs i.toNatClampNeg &&& 31).toInt]) rfl ⟨by rw [hz, k11]; decide, by decide, by rw [hz, k11]; decide, trivial⟩ ?_
      exact p_L_c11 hst hV n hb kont hk χ σ τ o ρ i hχ h
    rw [if_neg k11] at h
    by_cases k12 : z = 12
    · rw [if_pos k12] at h
      refine hV.run 3 [13] (ws' := wL 7 18 χ σ τ o ρ) (pc' := 678) (ls' := [(0, .retAddr 99), (1, .ref 0), (2, .ref 75), (3, .ref 74), (4, .int i)]) (st' := []) (ps := [(xs i.toNatClampNeg &&& 31).toInt = 0 + ((12 : Nat) : Int), 12 < 19, ¬ 18 < (xs i.toNatClampNeg &&& 31).toInt]) rfl ⟨by rw [hz, k12]; decide, by decide, by rw [hz, k12]; decide, trivial⟩ ?_
      exact p_L_c12 hst hV n hb kont hk χ σ τ o ρ i hχ h
    rw [if_neg k12] at h
    by_cases k13 : z = 13
    · rw [if_pos k13] at h
      refine hV.run 3 [14] (ws' := wL 7 18 χ σ τ o ρ) (pc' := 691) (ls' := [(0, .retAddr 99), (1, .ref 0), (2, .ref 75), (3, .ref 74), (4, .int i)]) (st' := []) (ps := [(xs i.toNatClampNeg &&& 31).toInt = 0 + ((13 : Nat) : Int), 13 < 19, ¬ 18 < (xs i.toNatClampNeg &&& 31).toInt]) rfl ⟨by rw [hz, k13]; decide, by decide, by rw [hz, k13]; decide, trivial⟩ ?_
      exact p_L_c13 hst hV n hb kont hk χ σ τ o ρ i hχ h
    rw [if_neg k13] at h
    by_cases k14 : z = 14
    · rw [if_pos k14] at h
      refine hV.run 3 [15] (ws' := wL 7 18 χ σ τ o ρ) (pc' := 754) (ls' := [(0, .retAddr 99), (1, .ref 0), (2, .ref 75), (3, .ref 74), (4, .int i)]) (st' := []) (ps := [(xs i.toNatClampNeg &&& 31).toInt = 0 + ((14 : Nat) : Int), 14 < 19, ¬ 18 < (xs i.toNatClampNeg &&& 31).toInt]) rfl ⟨by rw [hz, k14]; decide, by decide, by rw [hz, k14]; decide, trivial⟩ ?_
      exact p_L_c14 hst hV n hb kont hk χ σ τ o ρ i hχ h
    rw [if_neg k14] at h
    by_cases k15 : z = 15
    · rw [if_pos k15] at h
      refine hV.run 3 [16] (ws' := wL 7 18 χ σ τ o ρ) (pc' := 854) (ls' := [(0, .retAddr 99), (1, .ref 0), (2, .ref 75), (3, .ref 74), (4, .int i)]) (st' := []) (ps := [(xs i.toNatClampNeg &&& 31).toInt = 0 + ((15 : Nat) : Int), 15 < 19, ¬ 18 < (xs i.toNatClampNeg &&& 31).toInt]) rfl ⟨by rw [hz, k15]; decide, by decide, by rw [hz, k15]; decide, trivial⟩ ?_
      exact p_L_c15 hst hV n hb kont hk χ σ τ o ρ i hχ h
    rw [if_neg k15] at h
    by_cases k16 : z = 16
    · rw [if_pos k16] at h
      refine hV.run 3 [17] (ws' := wL 7 18 χ σ τ o ρ) (pc' := 922) (ls' := [(0, .retAddr 99), (1, .ref 0), (2, .ref 75), (3, .ref 74), (4, .int i)]) (st' := []) (ps := [(xs i.toNatClampNeg &&& 31).toInt = 0 + ((16 : Nat) : Int), 16 < 19, ¬ 18 < (xs i.toNatClampNeg &&& 31).toInt]) rfl ⟨by rw [hz, k16]; decide, by decide, by rw [hz, k16]; decide, trivial⟩ ?_
      exact p_L_c16 hst hV n hb kont hk χ σ τ o ρ i hχ h
    rw [if_neg k16] at h
    by_cases k17 : z = 17
    · rw [if_pos k17] at h
      refine hV.run 3 [18] (ws' := wL 7 18 χ σ τ o ρ) (pc' := 978) (ls' := [(0, .retAddr 99), (1, .ref 0), (2, .ref 75), (3, .ref 74), (4, .int i)]) (st' := []) (ps := [(xs i.toNatClampNeg &&& 31).toInt = 0 + ((17 : Nat) : Int), 17 < 19, ¬ 18 < (xs i.toNatClampNeg &&& 31).toInt]) rfl ⟨by rw [hz, k17]; decide, by decide, by rw [hz, k17]; decide, trivial⟩ ?_
      exact p_L_c17 hst hV n hb kont hk χ σ τ o ρ i hχ h
    rw [if_neg k17] at h
    by_cases k18 : z = 18
    · rw [if_pos k18] at h
      refine hV.run 3 [19] (ws' := wL 7 18 χ σ τ o ρ) (pc' := 1034) (ls' := [(0, .retAddr 99), (1, .ref 0), (2, .ref 75), (3, .ref 74), (4, .int i)]) (st' := []) (ps := [(xs i.toNatClampNeg &&& 31).toInt = 0 + ((18 : Nat) : Int), 18 < 19, ¬ 18 < (xs i.toNatClampNeg &&& 31).toInt]) rfl ⟨by rw [hz, k18]; decide, by decide, by rw [hz, k18]; decide, trivial⟩ ?_
      exact p_L_c18 hst hV n hb kont hk χ σ τ o ρ i hχ h
    rw [if_neg k18] at h
    refine hV.run 3 [0] (ws' := wL 7 18 χ σ τ o ρ) (pc' := 1090) (ls' := [(0, .retAddr 99), (1, .ref 0), (2, .ref 75), (3, .ref 74), (4, .int i)]) (st' := []) (ps := [(xs i.toNatClampNeg &&& 31).toInt < 0 ∨ 18 < (xs i.toNatClampNeg &&& 31).toInt]) rfl ⟨?_, trivial⟩ ?_
    · rw [hz]
      have k0_ := am_ne k0 (by decide : (0 : Int32).toInt = 0); have k1_ := am_ne k1 (by decide : (1 : Int32).toInt = 1); have k2_ := am_ne k2 (by decide : (2 : Int32).toInt = 2); have k3_ := am_ne k3 (by decide : (3 : Int32).toInt = 3); have k4_ := am_ne k4 (by decide : (4 : Int32).toInt = 4); have k5_ := am_ne k5 (by decide : (5 : Int32).toInt = 5); have k6_ := am_ne k6 (by decide : (6 : Int32).toInt = 6); have k7_ := am_ne k7 (by decide : (7 : Int32).toInt = 7); have k8_ := am_ne k8 (by decide : (8 : Int32).toInt = 8); have k9_ := am_ne k9 (by decide : (9 : Int32).toInt = 9); have k10_ := am_ne k10 (by decide : (10 : Int32).toInt = 10); have k11_ := am_ne k11 (by decide : (11 : Int32).toInt = 11); have k12_ := am_ne k12 (by decide : (12 : Int32).toInt = 12); have k13_ := am_ne k13 (by decide : (13 : Int32).toInt = 13); have k14_ := am_ne k14 (by decide : (14 : Int32).toInt = 14); have k15_ := am_ne k15 (by decide : (15 : Int32).toInt = 15); have k16_ := am_ne k16 (by decide : (16 : Int32).toInt = 16); have k17_ := am_ne k17 (by decide : (17 : Int32).toInt = 17); have k18_ := am_ne k18 (by decide : (18 : Int32).toInt = 18); omega
    · refine hV.run 2 [] (ws' := wL 7 18 χ σ τ o ρ) (pc' := 23) (ls' := [(4, .int (i + 6)), (0, .retAddr 99), (1, .ref 0), (2, .ref 75), (3, .ref 74)]) (st' := []) (ps := []) rfl trivial ?_
      refine hV.pk [1, 2, 3, 4, 0] (ls' := [(0, .retAddr 99), (1, .ref 0), (2, .ref 75), (3, .ref 74), (4, .int (i + 6))]) rfl ?_
      exact hk χ σ τ o ρ _ _ _ (by omega) (by omega) hχ h
def L_loop (n L : Nat) (xs : Nat → Int32) : Nat → (Nat → Nat) → am_M → (Nat → Int64) → (Nat → Int64) → am_M → Int32 → Option Bool
  | 0 => fun _ _ _ _ _ _ => none
  | k + 1 => fun χ σ τ o ρ i => L_head n L xs (L_loop n L xs k) χ σ τ o ρ i
theorem p_L_loop {l : Launch} (hst : l.stackTraces = false) {L : Nat} {xs : Nat → Int32} {V : Nat → Nat → am_VT} (hV : am_BL l (am_cdT' tL_law) L xs V) (n : Nat) : ∀ (k c s : Nat) (χ : Nat → Nat) (σ : am_M) (τ : Nat → Int64) (o : Nat → Int64) (ρ : am_M) (i : Int32), c + k ≤ room_1.cells → s + 6 * k ≤ room_1.slots → am_chi χ → L_loop n L xs k χ σ τ o ρ i = some true → V c s (wL 7 18 χ σ τ o ρ) 23 [(0, .retAddr 99), (1, .ref 0), (2, .ref 75), (3, .ref 74), (4, .int i)] [] := by
  intro k
  induction k with
  | zero => intro c s χ σ τ o ρ i _ _ _ h; cases h
  | succ k ih =>
    intro c s χ σ τ o ρ i h1 h2 hχ h
    exact p_L_head hst hV n ⟨by omega, by omega⟩ (L_loop n L xs k) (fun χ σ τ o ρ i c' s' g1 g2 hχ g => ih c' s' χ σ τ o ρ i (by omega) (by omega) hχ g) χ σ τ o ρ i hχ h
