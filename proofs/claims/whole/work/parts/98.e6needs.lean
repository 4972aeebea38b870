/-! THE LAW'S CASES: which ROOM is needed -/
section NEEDS
variable {n c L : Nat} {xs : Nat → Int32} {kont : (Nat → Nat) → am_M → (Nat → Int64) → (Nat → Int64) → am_M → Int32 → Option Bool} {χ : Nat → Nat} {σ : am_M} {τ o : Nat → Int64} {ρ : am_M} {k : Nat}
/-- the reference while it seeks -/
def rX (ρ R : am_M) : Prop := (∀ c, 1 ≤ c → c < 14 ∨ 24 < c → R c = ρ c) ∧ (∀ k, k ≠ 2 → k ≠ 4 → k < 40 ∨ (42 < k ∧ k ≠ 46 ∧ k ≠ 48 ∧ k ≠ 59) → R 0 k = ρ 0 k) ∧ (∃ M', M' ≤ 320 ∧ R 15 64 = nI M')
/-- both search once -/
theorem both_go (hn : 2200 < n) {F H R : am_M} {N m x y tv : Nat} {kd nx ot : Nat → Nat} {G : Nat → Nat → List Int32} {D : Nat → Int32 → Int64 → VT} {room : Int32} {out : Int64} (hC : cI n F H χ σ τ ρ N m x y kd nx ot G D tv) (hX : rX ρ R) (hO : rOut (fun _ => out) R N kd) (h4 : R 0 4 = room) :
    ∃ P' τ' j R' b, X4_explore n (am_sg σ 26) (am_sg τ 26) (σ 0 2) room out = some (P', τ', j) ∧ cI n F H (updN χ 27 ((am_gj 26 8 (χ 27)).getD j 0)) (am_pg σ 26 8 P') (am_pg τ 26 8 τ') ρ N m x y kd nx ot G D tv ∧ am_chib (updN χ 27 ((am_gj 26 8 (χ 27)).getD j 0)) = true ∧ (am_pg σ 26 8 P') 0 = σ 0 ∧ (am_pg τ 26 8 τ') 0 = τ 0 ∧ (am_pg σ 26 8 P') 18 = σ 18 ∧ (am_pg σ 26 8 P') 19 = σ 19 ∧
      X8_go n R = some (decide ((am_pg σ 26 8 P') 26 11 = 0), R') ∧ ((am_pg σ 26 8 P') 26 11 = 0 → ∃ g, X8_someLocks n R' = some (b, sC R' 15 g) ∧ (∃ M', M' ≤ 320 ∧ g 64 = nI M')) ∧ (X4_locks (am_sg (am_pg σ 26 8 P') 26) = true ↔ ((am_pg σ 26 8 P') 26 11 = 0 ∧ b = true)) ∧ rX ρ R' ∧ R' 14 = R 14 ∧ R' 0 4 = R 0 4 := by
  have hS0 := hC.1
  have hok : okX n F H N kd (am_sg σ 26) R m room out := ⟨hS0.2.2.1, fun c q1 q2 => by rw [hX.1 c (by omega) (by omega)]; exact hS0.2.2.2.1 c q1 q2, hO, hS0.2.2.2.2.2.2.1, hS0.2.2.2.2.2.2.2.1, by rw [hX.2.1 3 (by omega) (by omega) (by omega)]; exact hS0.2.2.2.2.2.2.2.2.2.1, h4⟩
  obtain ⟨P', τ', j, e1, e2, e3, e4, e5, e6, e7, e8⟩ := hxs hn hC hok
  obtain ⟨P'', R', T, y1, y2, y3, y4, y5, y6, y7, ⟨y8, y9, y10, y11⟩, -⟩ := hS0.2.1.1 (am_sg τ 26) (am_sg σ 26) R m room out hok
  have e11 : (am_pg σ 26 8 P') 26 11 = (D m room out).1 := by rw [e8]; exact e2.1
  have e19 : (am_pg σ 26 8 P') 19 = σ 19 := by
    have a := e4.1.2.2.1 13 (by omega) (by omega)
    have b := hS0.2.2.1 13 (by omega) (by omega)
    rw [sg_app, if_neg (by omega), if_pos (by omega)] at a b
    exact a.trans b.symm
  have r35 : ρ 0 35 = -1 := hS0.2.2.2.2.2.2.2.2.2.2.2.2.2.2.2.2.2.2.2.2.1
  obtain ⟨g1, g2⟩ := y5
  have hx' : rX ρ R' := ⟨fun c q1 q2 => (y8 c q1 (by omega)).trans (hX.1 c q1 q2), fun z q1 q2 q3 => by
    by_cases q : z = 35
    · rw [q, y10, r35]
    · exact (y9 z (by omega)).trans (hX.2.1 z q1 q2 q3), y11⟩
  by_cases h0 : (D m room out).1 = 0
  · obtain ⟨b, g, z1, z2, z3⟩ := g2 h0
    refine ⟨P', τ', j, R', b, by rw [hS0.2.2.2.2.2.2.2.2.1]; exact e1, e4, hCh_b e4.2.2.2, e5, e6, e7, e19, by rw [e11]; exact y2, fun _ => ⟨g, z1, z3⟩, ?_, hx', y8 14 (by omega) (by omega), y9 4 (by omega)⟩
    rw [e11, locks_cl e3, z2]
  · refine ⟨P', τ', j, R', false, by rw [hS0.2.2.2.2.2.2.2.2.1]; exact e1, e4, hCh_b e4.2.2.2, e5, e6, e7, e19, by rw [e11]; exact y2, fun q => absurd (e11.symm.trans q) h0, ?_, hx', y8 14 (by omega) (by omega), y9 4 (by omega)⟩
    rw [e11, locks_cl e3]
    exact ⟨fun q => absurd q.1 h0, fun q => absurd q.1 h0⟩
theorem rX_s {R : am_M} {a : Int32} (h : rX ρ R) : rX ρ (sC R 0 (am_u (R 0) 4 a)) := ⟨fun c q1 q2 => by rw [sC_ne (by omega)]; exact h.1 c q1 q2, fun z q1 q2 q3 => (am_u_ne q2).trans (h.2.1 z q1 q2 q3), h.2.2⟩
theorem rX_g {R : am_M} {g : Nat → Int32} (h : rX ρ R) (hg : ∃ M', M' ≤ 320 ∧ g 64 = nI M') : rX ρ (sC R 15 g) := ⟨fun c q1 q2 => by rw [sC_ne (by omega)]; exact h.1 c q1 q2, fun z q1 q2 q3 => h.2.1 z q1 q2 q3, hg⟩
theorem needs_end {K : Nat} {R : am_M} {a b : Int32} {r : Nat} : X8_needs_L17 n (K + 1) R a b 0 (nI r) = some (b, sC R 0 (am_u (R 0) 4 a)) := by
  simp only [X8_needs_L17, X8_needs_B17, X8_needs_J75]
  by_cases h : 3 < nI r
  · rw [if_pos h]
  · rw [if_neg h, if_pos True.intro]
theorem needs_loop (hn : 2200 < n) {F H : am_M} {N m x y tv : Nat} {kd nx ot : Nat → Nat} {G : Nat → Nat → List Int32} {D : Nat → Int32 → Int64 → VT} : ∀ (d r K K' : Nat) (χ : Nat → Nat) (σ : am_M) (τ : Nat → Int64) (R : am_M), r + d = 4 → d < K → d < K' → cI n F H χ σ τ ρ N m x y kd nx ot G D tv → am_chib χ = true → rX ρ R → R 14 = ρ 14 → ∃ a χ' σ' τ' R', X7_needs_L2 n K σ τ χ (nI r) = some (a, σ', τ', χ') ∧ X8_needs_L17 n K' R (ρ 0 4) (-1) 1 (nI r) = some (a, sC R' 0 (am_u (R' 0) 4 (ρ 0 4))) ∧ rX ρ R' ∧ R' 14 = ρ 14 ∧ cI n F H χ' σ' τ' ρ N m x y kd nx ot G D tv ∧ am_chib χ' = true ∧ σ' 0 = σ 0 ∧ τ' 0 = τ 0 := by
  intro d
  induction d with
  | zero =>
    intro r K K' χ σ τ R hr h1 h2 hC hb hX h14
    obtain ⟨K, rfl⟩ : ∃ J, K = J + 1 := ⟨K - 1, by omega⟩
    obtain ⟨K', rfl⟩ : ∃ J, K' = J + 1 := ⟨K' - 1, by omega⟩
    have g : (3 : Int32) < nI r := by
      rw [show r = 4 by omega]
      decide
    refine ⟨-1, χ, σ, τ, R, ?_, ?_, hX, h14, hC, hb, rfl, rfl⟩
    · simp only [X7_needs_L2, X7_needs_B2]
      rw [if_pos g]
    · simp only [X8_needs_L17, X8_needs_B17, X8_needs_J75]
      rw [if_pos g]
  | succ d ih =>
    intro r K K' χ σ τ R hr h1 h2 hC hb hX h14
    obtain ⟨K, rfl⟩ : ∃ J, K = J + 1 := ⟨K - 1, by omega⟩
    obtain ⟨K', rfl⟩ : ∃ J, K' = J + 1 := ⟨K' - 1, by omega⟩
    have g : ¬ (3 : Int32) < nI r := fun q => Int32.not_le.mpr q ((nI_leI (b := 3) (by omega) (by omega)).mpr (by omega))
    have hO : rOut (fun _ => 0) (sC R 0 (am_u (R 0) 4 (nI r))) N kd := rOut_0 hC.1.1.1 (fun s hs => by
      show R 14 s = 0
      rw [h14]
      exact hC.1.2.2.2.2.2.1 s hs)
    obtain ⟨P', τ', j, R', b, y1, y2, y3, y4, y5, y6, y6', y7, y8, y9, y10, y11, y12⟩ := both_go hn hC (rX_s (a := nI r) hX) hO (room := nI r) rfl
    have y14 : R' 14 = ρ 14 := y11.trans h14
    simp only [X7_needs_L2, X7_needs_B2, X8_needs_L17, X8_needs_B17]
    rw [if_neg g, if_neg g, if_neg (show ¬ (1 : Int32) = 0 by decide), y1, y7]
    dsimp only [Option.bind]
    by_cases h0 : (am_pg σ 26 8 P') 26 11 = 0
    · obtain ⟨gg, z1, z2⟩ := y8 h0
      rw [if_pos h0, if_pos (decide_eq_true h0), z1]
      dsimp only
      cases hbb : b with
      | true =>
        obtain ⟨a, χ', σ', τ'', R'', i1, i2, i3, i4, i5, i6, i7, i8⟩ := ih (r + 1) K K' _ _ _ (sC R' 15 gg) (by omega) (by omega) (by omega) y2 y3 (rX_g y10 z2) y14
        refine ⟨a, χ', σ', τ'', R'', ?_, ?_, i3, i4, i5, i6, i7.trans y4, i8.trans y5⟩
        · rw [if_pos (y9.mpr ⟨h0, hbb⟩), nI_1]
          exact i1
        · rw [if_pos rfl]
          unfold X8_needs_J56 X8_needs_J69
          rw [if_neg (show ¬ b2i (decide ((am_pg σ 26 8 P') 26 11 = 0)) = 0 by rw [decide_eq_true h0]; decide), if_neg (show ¬ (1 : Int32) = 0 by decide), nI_1]
          exact i2
      | false =>
        obtain ⟨K'', rfl⟩ : ∃ J, K' = J + 1 := ⟨K' - 1, by omega⟩
        refine ⟨nI r, _, _, _, sC R' 15 gg, ?_, ?_, rX_g y10 z2, y14, y2, y3, y4, y5⟩
        · rw [if_neg (fun q => by have := (y9.mp q).2; rw [hbb] at this; exact Bool.false_ne_true this)]
        · rw [if_neg Bool.false_ne_true]
          unfold X8_needs_J55 X8_needs_J56 X8_needs_J69
          rw [if_neg (show ¬ b2i (decide ((am_pg σ 26 8 P') 26 11 = 0)) = 0 by rw [decide_eq_true h0]; decide), if_pos rfl, nI_1]
          exact needs_end
    · obtain ⟨K'', rfl⟩ : ∃ J, K' = J + 1 := ⟨K' - 1, by omega⟩
      refine ⟨-1, _, _, _, R', ?_, ?_, y10, y14, y2, y3, y4, y5⟩
      · rw [if_neg h0]
      · rw [if_neg (by rw [decide_eq_true_eq]; exact h0)]
        unfold X8_needs_J55 X8_needs_J56 X8_needs_J69
        rw [if_pos (show b2i (decide ((am_pg σ 26 8 P') 26 11 = 0)) = 0 by rw [decide_eq_false h0]; rfl), nI_1]
        exact needs_end
/-- the relation again, from its halves -/
theorem hRel_of {F H : am_M} {N m x y v tv : Nat} {kd nx ot : Nat → Nat} {G : Nat → Nat → List Int32} {D : Nat → Int32 → Int64 → VT} {χ' : Nat → Nat} {σ' ρ' : am_M} {τ' : Nat → Int64} (hC : cI n F H χ' σ' τ' ρ N m x y kd nx ot G D tv) (h3 : hTd ρ m v tv c D) (h4 : hLf σ τ ρ N tv) (e0 : σ' 0 = σ 0) (et : τ' 0 = τ 0) (hρ : rSame ρ ρ') : hRel n (c + 1) χ' σ' τ' ρ' := ⟨F, H, N, m, x, y, v, tv, kd, nx, ot, G, D, hS_same (fun _ _ => rfl) (fun _ _ _ => rfl) (rSm_of hρ) hC.1, hC.2.1, hTd_same hρ h3, hLf_same (by rw [e0]) et (rSm_of hρ) h4, hPl_same rfl rfl rfl (rSm_of hρ) hC.2.2.1, hC.2.2.2⟩
theorem case11 (hn : 2200 < n) (hk : KT n c kont (nI k)) (h : hRel n c χ σ τ ρ) : L_c11 n L xs kont χ σ τ o ρ (nI k) = some true := by
  have hch := hRel_ch h
  have now := hRel_now h
  obtain ⟨F, H, N, m, x, y, v, tv, kd, nx, ot, G, D, h1, h2, h3, h4, h5, h6⟩ := h
  have r2 : rX ρ (sC ρ 0 (am_u (ρ 0) 2 0)) := ⟨fun c q1 q2 => sC_ne (by omega), fun z q1 q2 q3 => am_u_ne q1, now⟩
  obtain ⟨a, χ', σ', τ', R', i1, i2, i3, i4, i5, i6, i7, i8⟩ := needs_loop hn (ρ := ρ) 4 0 n n χ σ τ (sC ρ 0 (am_u (ρ 0) 2 0)) (by omega) (by omega) (by omega) ⟨h1, h2, h5, h6⟩ hch r2 rfl
  unfold L_c11 X7_needs X8_needs
  rw [show (0 : Int32) = nI 0 from rfl] at *
  rw [i1, i2]
  dsimp only [Option.bind]
  rw [if_neg (by rw [i6]; decide), if_pos rfl]
  refine hk _ _ _ _ _ (hRel_of i5 h3 h4 i7 i8 ⟨fun c q1 q2 => ?_, fun z q1 q2 => ?_, i3.2.2⟩)
  · rw [sC_ne (by omega)]
    by_cases q : c = 14
    · rw [q]; exact i4
    · exact i3.1 c q1 (by omega)
  · show am_u (R' 0) 4 (ρ 0 4) z = ρ 0 z
    by_cases q : z = 4
    · rw [q]
    · rw [am_u_ne q]
      exact i3.2.1 z q1 q q2
end NEEDS
