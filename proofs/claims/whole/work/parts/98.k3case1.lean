/-! THE LAW'S CASES: a text is read -/
section TEXT
variable {n c L : Nat} {xs : Nat → Int32} {kont : (Nat → Nat) → am_M → (Nat → Int64) → (Nat → Int64) → am_M → Int32 → Option Bool} {χ : Nat → Nat} {σ : am_M} {τ o : Nat → Int64} {ρ : am_M} {k : Nat}
theorem tS_7 {x : Option Int32} (h : am_fp x = 7) : tS x σ = σ ∧ tC x χ = χ := by
  unfold tS tC
  rw [h]
  exact ⟨if_neg (by decide), if_neg (by decide)⟩
theorem fp_no {v : Int32} (h : v ≠ 0) : am_fp (some v) = 7 := by
  show (if v = 0 then 18 else 7) = 7
  rw [if_neg h]
theorem swn_lo {k : Nat} (h : k < 7 ∨ (15 ≤ k ∧ k < 18) ∨ 26 ≤ k) : swn k = k := by
  have ff : ∀ a b : Nat, ¬ a ≤ b → Nat.ble a b = false := fun a b h => Bool.eq_false_iff.mpr (fun q => h (Nat.ble_eq.mp q))
  have tt : ∀ a b : Nat, a ≤ b → Nat.ble a b = true := fun a b h => Nat.ble_eq.mpr h
  unfold swn
  rcases h with h | ⟨h1, h2⟩ | h
  · rw [ff 7 k (by omega)]
  · rw [tt 7 k (by omega)]
    dsimp only
    rw [tt 15 k (by omega)]
    dsimp only
    rw [ff 18 k (by omega)]
  · rw [tt 7 k (by omega)]
    dsimp only
    rw [tt 15 k (by omega)]
    dsimp only
    rw [tt 18 k (by omega)]
    dsimp only
    rw [tt 26 k (by omega)]
/-- the class's cells behind text() -/
theorem pg_26 {T : am_M} : am_pg T 26 8 (sC (am_sg T 26) 0 (am_u (T 26) 12 0)) = sC T 26 (am_u (T 26) 12 0) := by
  funext k
  rw [pg_app]
  by_cases h1 : k < 18
  · rw [if_pos h1, sC_ne (by omega)]
  · rw [if_neg h1]
    by_cases h2 : k < 26
    · rw [if_pos h2, sC_ne (by omega), sg_app, if_neg (by omega), if_pos (by omega), sC_ne (by omega), show k - 6 + 6 = k by omega]
    · rw [if_neg h2, if_neg h2]
      by_cases h3 : k < 26 + 12
      · rw [if_pos h3]
        by_cases h4 : k = 26
        · rw [h4] <;> rfl
        · rw [sC_ne (by omega), sC_ne h4, sg_app, if_pos (by omega), show 26 + (k - 26) = k by omega]
      · rw [if_neg h3]
        by_cases h5 : k < 26 + 12 + 8
        · rw [if_pos h5, sC_ne (by omega), sC_ne (by omega), sg_app, if_neg (by omega), if_neg (by omega), show 26 + (k - 26 + 8) - 8 = k by omega]
        · rw [if_neg h5, sC_ne (by omega)]
theorem sg_sw {T : am_M} {a : Nat} (ha : 26 ≤ a) (k : Nat) (hk : k < 12 ∨ 20 ≤ k) : am_sg (swS T) a k = am_sg T a k := by
  rw [sg_app, sg_app]
  by_cases h1 : k < 12
  · rw [if_pos h1, if_pos h1]
    show T (swn (a + k)) = _
    rw [swn_lo (by omega)]
  · rw [if_neg h1, if_neg h1, if_neg (by omega), if_neg (by omega)]
    show T (swn (a + k - 8)) = _
    rw [swn_lo (by omega)]
theorem case1 (hn : 4000 < n) (hc : c ≤ 600) (hL : k + 5 < L) (hL2 : L ≤ 3072) (hk : KT n c kont (nI k)) (h : hRel n c χ σ τ ρ) : L_c1 n L xs kont χ σ τ o ρ (nI k) = some true := by
  have hnow := hRel_now h
  have hch := hRel_ch h
  have h' := h
  obtain ⟨F, H, N0, m, x, y, v, tv, kd, nx, ot, G, D, hS0, hR0, hT0, hL0, hP0, hC0⟩ := h'
  obtain ⟨a1, a2, a3, a4, a5, a6, a7, a8, a9, a10, a11, a12, a13, a14, a15, a16, a17, a18, ⟨f, f1, f2, f3, f4⟩, a20, a21, a22⟩ := hS0
  unfold L_c1
  rw [nI_1, if_neg (pu_g (n := L) (by omega) (by omega))]
  generalize xs (nI (k + 1)).toNatClampNeg = a
  have thr : X7_text n σ τ χ a = X7_text_J18 n σ τ χ → X8_text n ρ a = X8_text_J17 n (sC ρ 0 (am_u (ρ 0) 2 0)) → (X7_text n σ τ χ a).bind (fun q2 => if ¬ am_chib q2.2.2.2 = true then none else (X8_text n ρ a).bind (fun q4 => if (X8_thrown q4.2) = (hR q2.1) then (if (hR q2.1) = 0 then (if (lg_cmp ((hO id o q2.1) (0 : Int32).toNatClampNeg) q4.1.toInt64) = 0 then (kont (tC q2.1 q2.2.2.2) (tS q2.1 q2.2.1) q2.2.2.1 (hO id o q2.1) q4.2 (nI k + 6)) else (some false)) else (kont (tC q2.1 q2.2.2.2) (tS q2.1 q2.2.1) q2.2.2.1 (hO id o q2.1) q4.2 (nI k + 6))) else (some false))) = some true := fun e1 e2 => by
    rw [e1, e2]
    unfold X7_text_J18 X8_text_J17 X8_fail
    dsimp only [Option.bind]
    rw [if_neg (by rw [hch]; decide), (tS_7 (σ := σ) (χ := χ) (x := none) rfl).1, (tS_7 (σ := σ) (χ := χ) (x := none) rfl).2]
    exact thr_end (q := (none : Option Int32)) (α := Int32) (b := 0) hk (hRel_ref (rSame_t (rSame_2 hnow) (rSame_2 hnow)) h) (Or.inr ⟨rfl, rfl⟩)
  by_cases n0 : a < 0
  · refine thr ?_ ?_
    · unfold X7_text
      rw [if_pos n0]
    · unfold X8_text
      rw [if_pos n0]
  obtain ⟨A, hA, rfl⟩ := nI_of n0
  by_cases hAf : A ≤ f
  rotate_left
  · refine thr ?_ ?_
    · unfold X7_text
      rw [if_neg n0, f2, if_neg (fun q => hAf ((nI_leI hA (by omega)).mp q))]
    · unfold X8_text
      rw [if_neg n0, f3, if_neg (fun q => hAf ((nI_leI hA (by omega)).mp q))]
  have A7 : A ≤ 700 := by omega
  obtain ⟨S', R1, R', first, r1, r2, r3, r4, r5⟩ := read_all (n := n) (σ := am_sub σ 1) (ρ := ρ) (by omega) A7 (fun p hp => (f4 p (by omega)).2) (fun p hp => (f4 p (by omega)).1.symm)
  have le : nI A ≤ σ 2 1 := by
    rw [f2]
    exact (nI_leI hA (by omega)).mpr hAf
  -- what the reference keeps
  have ro : ∀ c, c ≠ 0 → (c < 4 ∨ 13 < c) → R' c = ρ c := fun c h0 hc => by
    rw [r4.1 c h0 hc]
    unfold rT0
    rw [sC_ne (by omega), sC_ne h0]
  have r0 : ∀ j, (2 < j ∧ j < 10) ∨ 22 ≤ j → R' 0 j = ρ 0 j := fun j hj => by
    rw [r4.2.1 j (by omega)]
    unfold rT0
    show am_u (am_u (am_u (am_u (am_u (am_u (am_u (ρ 0) 2 0) 10 0) 11 0) 12 (nI A)) 18 0) 20 (-1)) 21 0 j = _
    rw [am_u_ne (by omega), am_u_ne (by omega), am_u_ne (by omega), am_u_ne (by omega), am_u_ne (by omega), am_u_ne (by omega), am_u_ne (by omega)]
  have r02 : R' 0 2 = 0 := r4.2.1 2 (by omega)
  have r010 : R' 0 10 = 0 := r4.2.1 10 (by omega)
  have r020 : R' 0 20 = -1 := r4.2.1 20 (by omega)
  obtain ⟨T, hT⟩ : ∃ T, T = sC (am_put σ 1 17 S') 2 (am_u ((am_put σ 1 17 S') 2) 1 0) := ⟨_, rfl⟩
  have to : ∀ c, (c < 1 ∨ 18 ≤ c) → T c = σ c := fun c hc => by rw [hT, sC_ne (by omega), am_put_ne (by omega)]
  have tp : ∀ c, 1 ≤ c → c < 18 → c ≠ 2 → T c = S' (c - 1) := fun c h1 h2 h3 => by rw [hT, sC_ne h3, am_put_in h1 (by omega)]
  have t21 : T 2 1 = 0 := by rw [hT] <;> rfl
  have sgT : ∀ b, 18 ≤ b → am_sg T b = am_sg σ b := fun b hb => by
    funext j
    rw [sg_app, sg_app]
    by_cases h1 : j < 12
    · rw [if_pos h1, if_pos h1, to _ (by omega)]
    · rw [if_neg h1, if_neg h1]
      by_cases h2 : j < 20
      · rw [if_pos h2, if_pos h2, to _ (by omega)]
      · rw [if_neg h2, if_neg h2, to _ (by omega)]
  obtain ⟨b1, b2, b3, b4, b5, b6⟩ := hT0
  rcases r5 with ⟨w1, w2, w3⟩ | ⟨z, q, N, ok⟩
  · -- a FAULT
    have tx := text_no (n := n) (ρ := ρ) (by omega) A7 f1 f3 hAf r2 r3 (by rw [w2]; exact w1)
    have cx : X7_text n σ τ χ (nI A) = some (some (S' 0 2), T, τ, χ) := by
      unfold X7_text
      rw [if_neg n0, if_pos le, r1]
      dsimp only [Option.bind]
      rw [if_neg w1, ← hT]
    rw [cx, tx]
    dsimp only [Option.bind]
    rw [if_neg (by rw [hch]; decide), (tS_7 (σ := T) (χ := χ) (fp_no w1)).1, (tS_7 (σ := T) (χ := χ) (fp_no w1)).2]
    obtain ⟨ρ', hρ'⟩ : ∃ ρ', ρ' = sC R' 0 (am_u (R' 0) 20 (R' 0 19)) := ⟨_, rfl⟩
    rw [← hρ']
    have po : ∀ c, c ≠ 0 → (c < 4 ∨ 13 < c) → ρ' c = ρ c := fun c h0 hc => by rw [hρ', sC_ne h0, ro c h0 hc]
    have p0 : ∀ j, (2 < j ∧ j < 10) ∨ 22 ≤ j → ρ' 0 j = ρ 0 j := fun j hj => by
      rw [hρ']
      show am_u (R' 0) 20 (R' 0 19) j = _
      rw [am_u_ne (by omega), r0 j hj]
    have pc : ∀ c, c ≠ 0 → ρ' c = R' c := fun c h0 => by rw [hρ', sC_ne h0]
    have h40 : ρ' 4 0 = H 4 0 := by
      rw [pc 4 (by omega), r4.2.2.1, ← a4 4 (by omega) (by omega)]
      unfold rT0
      exact upd_ne (by omega)
    have lo : ∀ c, 4 ≤ c → c ≤ 13 → c ≠ 4 → ∀ j, (rT0 ρ A) c j = H c j := fun c h1 h2 h3 j => by
      rw [← a4 c h1 h2]
      unfold rT0
      rw [sC_ne h3, sC_ne (by omega)]
    obtain ⟨sc, lw⟩ := scr_low (n := n) (H' := ρ') (by omega) h40 (fun c hc j hj => by rw [pc c (by omega), r4.2.2.2.1 c hc j hj, lo c (by omega) (by omega) (by omega)]) (fun j hj => by rw [pc 7 (by omega), pc 8 (by omega), (r4.2.2.2.2.1 j hj).1, (r4.2.2.2.2.1 j hj).2, lo 7 (by omega) (by omega) (by omega), lo 8 (by omega) (by omega) (by omega)]; exact ⟨rfl, rfl⟩) (fun j hj => by rw [pc 5 (by omega), r4.2.2.2.2.2 j hj, lo 5 (by omega) (by omega) (by omega)]) a2.2 a1
    have dp := DP_low (n := n) (by omega) sc lw a2
    refine thr_end (q := some (S' 0 2)) (α := Int32) (b := R' 0 18) (ρ' := ρ') hk ?_ (Or.inl ⟨S' 0 2, rfl, by rw [hρ']; exact r02, w2⟩)
    refine ⟨F, ρ', N0, m, x, y, v, tv, kd, nx, ot, G, D, ⟨sc, dp, by rw [sgT 26 (by omega)]; exact a3, fun _ _ _ => rfl, by rw [to 18 (by omega)]; exact a5, by rw [po 14 (by omega) (by omega)]; exact a6, a7, a8, by rw [to 0 (by omega)]; exact a9, by rw [p0 3 (by omega)]; exact a10, by rw [to 0 (by omega), p0 4 (by omega)]; exact a11, by rw [p0 4 (by omega)]; exact a12, a13, a14, by rw [to 0 (by omega)]; exact a15, by rw [p0 5 (by omega)]; exact a16, by rw [to 0 (by omega)]; exact a17, by rw [p0 6 (by omega)]; exact a18, ⟨0, by omega, t21, by rw [hρ']; exact r010, fun j hj => absurd hj (Nat.not_lt_zero _)⟩, ?_, by rw [p0 35 (by omega)]; exact a21, by rw [po 15 (by omega) (by omega)]; exact a22⟩, ?_, ⟨by omega, by rw [p0 7 (by omega)]; exact b2, by omega, by rw [p0 8 (by omega)]; exact b4, by rw [p0 47 (by omega)]; exact b5, fun e => ?_⟩, ?_, ?_, hC0⟩
    · rw [tp 1 (by omega) (by omega) (by omega), hρ']
      show S' 0 3 = R' 0 19
      exact w3.symm
    · unfold hRd at hR0 ⊢
      rw [to 26 (by omega), sgT 26 (by omega)]
      exact hR0
    · rw [p0 47 (by omega), p0 7 (by omega)] at e
      rw [p0 4 (by omega)]
      exact vT_congr (po 25 (by omega) (by omega)) (po 26 (by omega) (by omega)) (p0 51 (by omega)) (p0 52 (by omega)) (p0 53 (by omega)) (b6 e)
    · unfold hLf at hL0 ⊢
      rw [to 0 (by omega), p0 56 (by omega), p0 8 (by omega), po 27 (by omega) (by omega)]
      exact hL0
    · unfold hPl at hP0 ⊢
      rw [to 0 (by omega), p0 58 (by omega), p0 57 (by omega), p0 3 (by omega), p0 8 (by omega), sgT 46 (by omega)]
      exact ⟨hP0.1, hP0.2.imp id (fun e => ⟨e.1, e.2.1, e.2.2.1, e.2.2.2.1, plI_congr (po 28 (by omega) (by omega)) (po 30 (by omega) (by omega)) (po 31 (by omega) (by omega)) (po 33 (by omega) (by omega)) (po 34 (by omega) (by omega)) (po 35 (by omega) (by omega)) (p0 60 (by omega)) (p0 68 (by omega)) e.2.2.2.2⟩)⟩
  · -- fine
    obtain ⟨k1, k2, k3, k4, k5, k6, k7, k8, k9, k10, k11, k12⟩ := ok
    obtain ⟨ρ', x1, x2, x3, x4, x5, x6, x7⟩ := text_ok (n := n) (ρ := ρ) (by omega) A7 f1 f3 hAf r2 r3 ⟨k1, k2, k3, k4, k5, k6, k7, k8, k9, k10, k11, k12⟩
    obtain ⟨T2, hT2⟩ : ∃ T2, T2 = sC (sC T 26 (am_u (T 26) 12 0)) 0 (am_u (am_u ((sC T 26 (am_u (T 26) 12 0)) 0) 9 0) 10 0) := ⟨_, rfl⟩
    have cx : X7_text n σ τ χ (nI A) = some (some 0, T2, τ, χ) := by
      have fo : X4_forget (am_sg T 26) = some (sC (am_sg T 26) 0 (am_u (T 26) 12 0)) := rfl
      unfold X7_text
      rw [if_neg n0, if_pos le, r1, k1]
      dsimp only [Option.bind]
      rw [if_pos rfl, ← hT, fo]
      dsimp only
      rw [pg_26, ← hT2]
    rw [cx, x1]
    dsimp only [Option.bind]
    rw [if_neg (by rw [hch]; decide)]
    have e18 : am_fp (some (0 : Int32)) = 18 := rfl
    have eS : tS (some (0 : Int32)) T2 = swS T2 := if_pos e18
    have eC : tC (some (0 : Int32)) χ = chi0 := if_pos e18
    rw [eS, eC]
    have po : ∀ c, c ≠ 0 → (c < 4 ∨ 13 < c) → ρ' c = ρ c := fun c h0 hc => by rw [x6 c h0 hc, ro c h0 hc]
    have p0 : ∀ j, j ≠ 7 → j ≠ 8 → ρ' 0 j = R' 0 j := fun j h7 h8 => by rw [x7, am_u_ne h8, am_u_ne h7]
    have p1 : ∀ j, (2 < j ∧ j < 7) ∨ 22 ≤ j → ρ' 0 j = ρ 0 j := fun j hj => by rw [p0 j (by omega) (by omega), r0 j (by omega)]
    have p7 : ρ' 0 7 = nI (v + 1) := by
      rw [x7]
      show R' 0 7 + 1 = _
      rw [r0 7 (by omega), b2, nI_1]
    have p8 : ρ' 0 8 = nI (tv + 1) := by
      rw [x7]
      show R' 0 8 + 1 = _
      rw [r0 8 (by omega), b4, nI_1]
    have t2o : ∀ c, c ≠ 0 → c ≠ 26 → T2 c = T c := fun c h0 h26 => by rw [hT2, sC_ne h0, sC_ne h26]
    have s0 : ∀ j, j ≠ 9 → j ≠ 10 → (swS T2) 0 j = σ 0 j := fun j h9 h10 => by
      show T2 0 j = _
      rw [hT2]
      show am_u (am_u (T 0) 9 0) 10 0 j = _
      rw [am_u_ne h10, am_u_ne h9, to 0 (by omega)]
    have s09 : (swS T2) 0 9 = 0 := by
      show T2 0 9 = 0
      rw [hT2] <;> rfl
    have s010 : (swS T2) 0 10 = 0 := by
      show T2 0 10 = 0
      rw [hT2] <;> rfl
    have s26 : (swS T2) 26 12 = 0 := by
      show T2 26 12 = 0
      rw [hT2] <;> rfl
    have s18 : ∀ j, j < 8 → (swS T2) (18 + j) = S' (6 + j) := fun j hj => by
      have e : (swS T2) (18 + j) = T2 (7 + j) := by
        rcases (show j = 0 ∨ j = 1 ∨ j = 2 ∨ j = 3 ∨ j = 4 ∨ j = 5 ∨ j = 6 ∨ j = 7 by omega) with rfl | rfl | rfl | rfl | rfl | rfl | rfl | rfl <;> rfl
      rw [e, t2o (7 + j) (by omega) (by omega), tp (7 + j) (by omega) (by omega) (by omega), show 7 + j - 1 = 6 + j by omega]
    obtain ⟨⟨nx', ot', G', sc⟩, lw⟩ := scr_of (n := n) (S := S') (R := R') (Q := am_sub (am_sg (swS T2) 26) 1) (H := ρ') (N := N) (z := z) (q := q) (by omega) k8 (fun j hj => by
      show am_sg (swS T2) 26 (1 + (11 + j)) = _
      rw [sg_app, if_neg (by omega), if_pos (by omega), show 1 + (11 + j) + 6 = 18 + j by omega, s18 j hj]) k4 k6 k7 k9 x2 x3 x4 x5 k12
    obtain ⟨D', hD'⟩ := det n (by omega) sc
    have vc : v ≤ 600 := by omega
    have tvc : tv ≤ 600 := by omega
    have ne1 : ∀ (X : Int32) (w : Nat), w ≤ 600 → (X = -1 ∨ ∃ j, j ≤ w ∧ X = nI j) → X ≠ nI (w + 1) := fun X w hw hX => by
      rcases hX with rfl | ⟨j, j1, rfl⟩
      · exact fun e => pu_ne1 (show w + 1 < 2 ^ 31 by omega) e.symm
      · exact fun e => by have := (nI_eq (by omega) (by omega)).mp e; omega
    refine thr_end (q := some (0 : Int32)) (α := Int32) (b := 0) (ρ' := ρ') hk ?_ (Or.inl ⟨0, rfl, by rw [p0 2 (by omega) (by omega)]; exact r02, rfl⟩)
    refine ⟨am_sg (swS T2) 26, ρ', N, m, x, y, v + 1, tv + 1, anS S', nx', ot', G', D', ⟨sc, ⟨hD', lw⟩, fun _ _ _ => rfl, fun _ _ _ => rfl, ?_, by rw [po 14 (by omega) (by omega)]; exact a6, a7, a8, by rw [s0 2 (by omega) (by omega)]; exact a9, by rw [p1 3 (by omega)]; exact a10, by rw [s0 3 (by omega) (by omega), p1 4 (by omega)]; exact a11, by rw [p1 4 (by omega)]; exact a12, a13, a14, by rw [s0 4 (by omega) (by omega)]; exact a15, by rw [p1 5 (by omega)]; exact a16, by rw [s0 5 (by omega) (by omega)]; exact a17, by rw [p1 6 (by omega)]; exact a18, ⟨0, by omega, ?_, by rw [p0 10 (by omega) (by omega)]; exact r010, fun j hj => absurd hj (Nat.not_lt_zero _)⟩, ?_, by rw [p1 35 (by omega)]; exact a21, by rw [po 15 (by omega) (by omega)]; exact a22⟩, Or.inl s26, ⟨by omega, p7, by omega, p8, ?_, fun e => ?_⟩, ⟨?_, Or.inl ⟨s010, ?_⟩⟩, ⟨?_, Or.inl ⟨s09, fun e => ?_⟩⟩, ⟨by decide, by decide, by decide⟩⟩
    · have := s18 0 (by omega)
      rw [Nat.add_zero] at this
      rw [this]
      exact k5
    · show T2 2 1 = 0
      rw [t2o 2 (by omega) (by omega)]
      exact t21
    · show T2 1 3 = _
      rw [t2o 1 (by omega) (by omega), tp 1 (by omega) (by omega) (by omega), p0 20 (by omega) (by omega), r020]
      exact k3
    · rw [p1 47 (by omega)]
      exact b5.imp id (fun ⟨j, j1, j2⟩ => ⟨j, by omega, j2⟩)
    · rw [p1 47 (by omega), p7] at e
      exact absurd e (ne1 _ v vc b5)
    · rw [p1 56 (by omega)]
      exact hL0.1.imp id (fun ⟨j, j1, j2⟩ => ⟨j, by omega, j2⟩)
    · rw [p1 56 (by omega), p8]
      exact ne1 _ tv tvc hL0.1
    · rw [p1 58 (by omega)]
      obtain ⟨j, j1, j2⟩ := hP0.1
      exact ⟨j, by omega, j2⟩
    · have e2 := e.2
      rw [p1 58 (by omega), p8] at e2
      exact absurd e2 (ne1 _ tv tvc (Or.inr hP0.1))
end TEXT
