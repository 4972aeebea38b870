/-! BEGINNING -/
theorem beg_loop (n : Nat) (hn : 2200 < n) {τ : Nat → Int64} {N m : Nat} {kd nx ot : Nat → Nat} {G : Nat → Nat → List Int32} (hm0 : 0 < m) (m8 : m ≤ 8) : ∀ (d i Kc Kr : Nat) (S σ : am_M), i + d = m → d < Kc → d < Kr → rScr n S σ N kd nx ot G → rOut τ σ N kd → S 0 1 = nI m → σ 0 3 = nI m → (∀ h, h < i → rHD S σ N m kd G h) → (∀ h, i ≤ h → h < m → (∀ j, j < 13 → S 1 (13 * h + j) = 0) ∧ ∀ j, j < 8 → σ 15 (8 * h + j) = 0) →
    ∃ f st g s, X2_begin_L86 n Kc S τ (nI m) (nI i) = some (stS S f st, τ) ∧ X8_begin_L24 n Kr σ (nI i) = some (stM σ g s) ∧ (∀ h, h < m → rHD (stS S f st) (stM σ g s) N m kd G h) ∧ (∀ x, 8 * m ≤ x → g x = σ 15 x) ∧ ∀ x, 13 * m ≤ x → f x = S 1 x := by
  intro d
  induction d with
  | zero =>
    intro i Kc Kr S σ hi h1 h2 hs ho hS hσ hd hz
    obtain ⟨Kc, rfl⟩ : ∃ J, Kc = J + 1 := ⟨Kc - 1, by omega⟩
    obtain ⟨Kr, rfl⟩ : ∃ J, Kr = J + 1 := ⟨Kr - 1, by omega⟩
    have e : i = m := by omega
    subst e
    refine ⟨S 1, S 7, σ 15, σ 16, ?_, ?_, fun h hh => ?_, fun _ _ => rfl, fun _ _ => rfl⟩
    · simp only [X2_begin_L86, X2_begin_B86]
      rw [if_pos (Int32.le_refl _), stS_self]
    · simp only [X8_begin_L24, X8_begin_B24]
      rw [hσ, if_pos (Int32.le_refl _), stM_self]
    · rw [stS_self, stM_self]; exact hd h hh
  | succ d ih =>
    intro i Kc Kr S σ hi h1 h2 hs ho hS hσ hd hz
    obtain ⟨Kc, rfl⟩ : ∃ J, Kc = J + 1 := ⟨Kc - 1, by omega⟩
    obtain ⟨Kr, rfl⟩ : ∃ J, Kr = J + 1 := ⟨Kr - 1, by omega⟩
    obtain ⟨z1, z2⟩ := hz i (Nat.le_refl _) (by omega)
    have hN4 := hs.1
    simp only [X2_begin_L86, X2_begin_B86, X8_begin_L24, X8_begin_B24, X8_begin_J48]
    rw [if_neg (by rw [pu_le (by omega) (by omega)]; omega), hσ, if_neg (by rw [pu_le (by omega) (by omega)]; omega)]
    obtain ⟨S2, hS2⟩ : ∃ S2, S2 = stS S (upd (upd (S 1) (13 * i + 6) (nI i)) (13 * i + 7) (nI m)) (S 7) := ⟨_, rfl⟩
    have e1 : X2_set S (nI i) 6 (nI i) = some (sC S 1 (upd (S 1) (13 * i + 6) (nI i))) := X2_set_eq (f := 6) (by omega) (by omega)
    have e2 : X2_set (sC S 1 (upd (S 1) (13 * i + 6) (nI i))) (nI i) 7 (nI m) = some S2 := by
      rw [show (7 : Int32) = nI 7 from rfl, X2_set_eq (f := 7) (by omega) (by omega), hS2, sC_sC]
      show some (sC S 1 (upd (upd (S 1) (13 * i + 6) (nI i)) (13 * i + 7) (nI m))) = _
      congr 1
      unfold stS
      rw [show S 7 = (sC S 1 (upd (upd (S 1) (13 * i + 6) (nI i)) (13 * i + 7) (nI m))) 7 from rfl, sC_self]
    have r2 : ∀ j, j < 13 → S2 1 (13 * i + j) = if j = 7 then nI m else if j = 6 then nI i else 0 := fun j hj => by
      rw [hS2]
      show upd (upd (S 1) (13 * i + 6) (nI i)) (13 * i + 7) (nI m) (13 * i + j) = _
      by_cases q : j = 7
      · subst q; rw [upd_eq, if_pos rfl]
      · rw [upd_ne (by omega), if_neg q]
        by_cases q6 : j = 6
        · subst q6; rw [upd_eq, if_pos rfl]
        · rw [upd_ne (by omega), if_neg q6]; exact z1 j hj
    have hev : rEv S2 σ m i := by
      refine ⟨fun v hv => ?_, ?_, ?_, ?_, ?_⟩
      · rw [show 13 * i + 2 + v = 13 * i + (2 + v) by omega, r2 _ (by omega), if_neg (by omega), if_neg (by omega), show 8 * i + 2 + v = 8 * i + (2 + v) by omega, z2 _ (by omega)]
      · rw [r2 6 (by omega)]; rfl
      · rw [r2 7 (by omega)]; rfl
      · rw [r2 8 (by omega), z2 6 (by omega)]; rfl
      · rw [r2 9 (by omega), z2 7 (by omega)]; rfl
    have hs2 : rScr n S2 σ N kd nx ot G := by
      rw [hS2, ← stM_self σ]; exact rScr_st hs
    have hS21 : S2 0 1 = nI m := by rw [hS2]; exact hS
    obtain ⟨f, st, g, s, c1, c2, c3, c4, c5, -⟩ := come_both n hn hs2 (show i < 8 by omega) ho hm0 m8 hS21 hσ (t := 0) (Nat.zero_le _) hev (by rw [r2 1 (by omega)]; rfl) (z2 1 (by omega))
    have c2' : (if σ 4 (0 : Int32).toNatClampNeg = 0 then (X8_come n σ (nI i) (-1)).bind (fun q1 => X8_begin_L24 n Kr q1 (nI i + 1)) else (X8_come n σ (nI i) 0).bind (fun q1 => X8_begin_L24 n Kr q1 (nI i + 1))) = X8_begin_L24 n Kr (stM σ g s) (nI (i + 1)) := by
      rw [show σ 4 (0 : Int32).toNatClampNeg = nI N from hs.2.2.1]
      unfold tgt at c2
      by_cases hN0 : 0 = N
      · rw [if_pos hN0] at c2
        rw [if_pos (by rw [← hN0]; rfl), c2]
        dsimp only [Option.bind]
        rw [nI_1]
      · rw [if_neg hN0, nI_0] at c2
        rw [if_neg (by rw [← nI_0, pu_eq (by omega) (by omega)]; omega), c2]
        dsimp only [Option.bind]
        rw [nI_1]
    rw [nI_0] at c1
    rw [c2', e1]
    dsimp only [Option.bind]
    rw [e2]
    dsimp only
    rw [c1]
    dsimp only
    rw [nI_1]
    have hfS : stS S2 f st = stS S f st := by rw [hS2, stS_stS]
    rw [hfS] at c1 c5 ⊢
    have hfo : ∀ x, ¬ (13 * i ≤ x ∧ x < 13 * i + 13) → f x = S 1 x := fun x hx => by
      rw [c3 x hx, hS2]
      show upd (upd (S 1) (13 * i + 6) (nI i)) (13 * i + 7) (nI m) x = _
      rw [upd_ne (by omega), upd_ne (by omega)]
    obtain ⟨f', st', g', s', d1, d2, d3, d4, d5⟩ := ih (i + 1) Kc Kr (stS S f st) (stM σ g s) (by omega) (by omega) (by omega) (rScr_st hs) ho hS hσ (fun h hh => by
      by_cases e : h = i
      · subst e; exact c5
      · exact rHD_congr (S := S) (σ := σ) (by omega) (fun j hj => hfo _ (by omega)) (fun j hj => c4 _ (by omega)) (hd h (by omega))) (fun h q1 q2 => by
      obtain ⟨y1, y2⟩ := hz h (by omega) q2
      exact ⟨fun j hj => (hfo _ (by omega)).trans (y1 j hj), fun j hj => (c4 _ (by omega)).trans (y2 j hj)⟩)
    rw [stS_stS] at d1 d3
    rw [stM_stM] at d2 d3
    exact ⟨f', st', g', s', d1, d2, d3, fun x hx => (d4 x hx).trans (c4 x (by omega)), fun x hx => (d5 x hx).trans (hfo x (by omega))⟩
theorem beg_zero (n : Nat) {σ : am_M} : ∀ (d i K : Nat) (g : Nat → Int32), i + d = 1985 → d < K → (∀ j, j < i → g j = 0) → ∃ g', X8_begin_L2 n K (sC σ 15 g) (nI i) = X8_begin_L24 n n (sC σ 15 g') 0 ∧ ∀ j, j < 1985 → g' j = 0 := by
  intro d
  induction d with
  | zero =>
    intro i K g hi hK hg
    obtain ⟨K, rfl⟩ : ∃ J, K = J + 1 := ⟨K - 1, by omega⟩
    have e : i = 1985 := by omega
    subst e
    refine ⟨g, ?_, hg⟩
    simp only [X8_begin_L2, X8_begin_B2]
    rw [if_pos (show (1985 : Int32) ≤ nI 1985 from Int32.le_refl _)]
  | succ d ih =>
    intro i K g hi hK hg
    obtain ⟨K, rfl⟩ : ∃ J, K = J + 1 := ⟨K - 1, by omega⟩
    simp only [X8_begin_L2, X8_begin_B2]
    rw [if_neg (show ¬ (1985 : Int32) ≤ nI i by rw [show (1985 : Int32) = nI 1985 from rfl, pu_le (by omega) (by omega)]; omega), if_neg (pu_g (n := 1985) (by omega) (by omega)), nI_clamp (by omega), nI_1, sC_sC]
    refine ih (i + 1) K (upd (sC σ 15 g 15) i 0) (by omega) (by omega) (fun j hj => ?_)
    by_cases e : j = i
    · subst e; exact upd_eq
    · rw [upd_ne e]; exact hg j (by omega)
/-- what stands at the BEGINNING -/
def begS (S : am_M) (m : Nat) (room near wide : Int32) : am_M := sC (sC (sC (sC (sC (sC S 0 (am_u (am_u (am_u (am_u (am_u (am_u (S 0) 1 (nI m)) 2 room) 3 near) 4 wide) 12 (-1)) 15 0)) 1 (jfill 104 (S 1) 0)) 2 (am_u (S 2) 4 0)) 8 (jfill 8 (S 8) 0)) 9 (jfill 8 (S 9) 0)) 10 (jfill 8 (S 10) 0)
theorem begin_both (n : Nat) (hn : 2200 < n) {τ : Nat → Int64} {S σ : am_M} {N m : Nat} {kd nx ot : Nat → Nat} {G : Nat → Nat → List Int32} {room near wide : Int32} {out : Int64} (hs : rScr n S σ N kd nx ot G) (ho : rOut (upd64 τ 0 out) σ N kd) (m2 : 2 ≤ m) (m8 : m ≤ 8) (h3 : σ 0 3 = nI m) (h4 : σ 0 4 = room) :
    ∃ S' σ', X2_begin n S τ (nI m) room near wide out = some (S', upd64 τ 0 out) ∧ X8_begin n σ = some σ' ∧ rB n (upd64 τ 0 out) S' σ' N m kd nx ot G ∧ rQ S' σ' N m kd G 0 ∧ S' 0 15 = 0 ∧ zr σ' m ∧ S' 0 12 = -1 ∧ (∀ c, 11 ≤ c → S' c = S c) ∧ (∀ c, c ≠ 15 → c ≠ 16 → σ' c = σ c) ∧ S' 0 1 = nI m ∧ S' 0 2 = room ∧ S' 0 3 = near ∧ S' 0 4 = wide ∧ (∀ h, h < 8 → S' 8 h = 0 ∧ S' 9 h = 0 ∧ S' 10 h = 0) ∧ (∀ x, 13 * m ≤ x → x < 104 → S' 1 x = 0) ∧ S' 0 0 = S 0 0 := by
  obtain ⟨g0, e0, z0⟩ := beg_zero n (σ := σ) 1985 0 n (σ 15) (by omega) (by omega) (fun j hj => by omega)
  rw [sC_self, nI_0] at e0
  have hs1 : rScr n (begS S m room near wide) (sC σ 15 g0) N kd nx ot G := by
    refine rScr_congr (S := S) (σ := σ) (fun c h1 h2 => ?_) (fun c h1 h2 => sC_ne (by omega)) hs
    unfold begS
    rw [sC_ne (by omega), sC_ne (by omega), sC_ne (by omega), sC_ne (by omega), sC_ne (by omega), sC_ne (by omega)]
  have f0 : ∀ x, x < 104 → begS S m room near wide 1 x = 0 := fun x hx => by
    show jfill 104 (S 1) 0 x = 0
    unfold jfill
    rw [if_pos hx]
  obtain ⟨f, st, g, s, d1, d2, d3, d4, d5⟩ := beg_loop n hn (τ := upd64 τ 0 out) (by omega) m8 m 0 n n (begS S m room near wide) (sC σ 15 g0) (by omega) (by omega) (by omega) hs1 ho rfl h3 (fun h hh => by omega) (fun h _ hh => ⟨fun j hj => f0 _ (by omega), fun j hj => z0 _ (by omega)⟩)
  rw [nI_0] at d1 d2
  refine ⟨_, _, d1, e0.trans d2, ⟨rScr_st hs1, ho, m2, m8, rfl, h3, h4.symm⟩, ⟨d3, ⟨by omega, rfl, ?_, fun k hk => by omega⟩, fun k hk => by omega⟩, rfl, fun j h1 h2 => ?_, rfl, fun c hc => ?_, fun c h1 h2 => ?_, rfl, rfl, rfl, rfl, fun h hh => ?_, fun x h1 h2 => ?_, rfl⟩
  · show g 64 = nI 0
    rw [d4 64 (by omega)]
    exact z0 64 (by omega)
  · show g j = 0
    rw [d4 j h1]
    exact z0 j (by omega)
  · unfold stS
    rw [sC_ne (by omega), sC_ne (by omega)]
    unfold begS
    rw [sC_ne (by omega), sC_ne (by omega), sC_ne (by omega), sC_ne (by omega), sC_ne (by omega), sC_ne (by omega)]
  · unfold stM
    rw [sC_ne h2, sC_ne h1, sC_ne h1]
  · have : ∀ F : Nat → Int32, jfill 8 F 0 h = 0 := fun F => by unfold jfill; rw [if_pos hh]
    exact ⟨this _, this _, this _⟩
  · show f x = 0
    rw [d5 x h1]
    exact f0 x h2
