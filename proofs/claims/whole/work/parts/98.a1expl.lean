/-! EXPLORING: all STATES, and the class's row of ENDINGS -/
def rowF (Sf : Nat → am_M) (m : Nat) (Mf : Nat → Nat) : Nat → Nat → Int32 := fun j => shw (Sf j) m (Mf j)
def isF (R : am_M) : Nat → Bool := fun j => decide (R 23 j = 1)
def eI (P R : am_M) (m : Nat) (Sf : Nat → am_M) (Mf : Nat → Nat) (i : Nat) : Prop := (∀ j, j < i → R 23 j = 0 ∨ (R 23 j = 1 ∧ P 25 j = knd (Sf j) m)) ∧ P 0 10 = nI (ordF (rowF Sf m Mf) (isF R) i).2 ∧ ∀ e, e < (ordF (rowF Sf m Mf) (isF R) i).2 → P 26 e = nI ((ordF (rowF Sf m Mf) (isF R) i).1 e)
def xF (P P' R R' : am_M) : Prop := (∀ c, 12 ≤ c → c < 20 → P' c = P c) ∧ (∀ k, k < 9 ∨ 11 < k → P' 0 k = P 0 k) ∧ (∀ c, 1 ≤ c → c < 15 ∨ 24 < c → R' c = R c) ∧ (∀ k, k < 40 ∨ (42 < k ∧ k ≠ 46 ∧ k ≠ 48) → R' 0 k = R 0 k)
theorem xF_r {P R : am_M} : xF P P R R := ⟨fun _ _ _ => rfl, fun _ _ => rfl, fun _ _ _ => rfl, fun _ _ => rfl⟩
theorem xF_t {P P' P2 R R' R2 : am_M} (a : xF P P' R R') (b : xF P' P2 R' R2) : xF P P2 R R2 := ⟨fun c h1 h2 => (b.1 c h1 h2).trans (a.1 c h1 h2), fun k h => (b.2.1 k h).trans (a.2.1 k h), fun c h1 h2 => (b.2.2.1 c h1 h2).trans (a.2.2.1 c h1 h2), fun k h => (b.2.2.2 k h).trans (a.2.2.2 k h)⟩
theorem eRow_sp {n : Nat} {P R Q : am_M} {N m s i : Nat} {kd : Nat → Nat} {G : Nat → Nat → List Int32} {Sf σf : Nat → am_M} {Mf : Nat → Nat} (h : spI n P R N m kd G Sf σf Mf s) (hi : i < s) (h20 : Q 20 = P 20) (h22 : Q 22 = P 22) (h25 : Q 25 i = knd (Sf i) m) : eRow Q m i (Mf i) (Sf i) := by
  obtain ⟨g1, g2, g3, g4, g5, g6, g7⟩ := h
  refine ⟨by rw [h20]; exact (g6 i hi).1, ⟨sumF Mf i, by rw [h22]; exact g5 i (by omega), by rw [h22]; exact g5 (i + 1) (by omega)⟩, h25⟩
theorem expl_step (n : Nat) (hn : 2200 < n) {τ : Nat → Int64} {P R : am_M} {N m s i : Nat} {kd nx ot : Nat → Nat} {G : Nat → Nat → List Int32} {Sf σf : Nat → am_M} {Mf : Nat → Nat} (hX : xI n τ P R N m kd nx ot G Sf σf Mf s) (hE : eI P R m Sf Mf i) (hi : i < s) (h11 : P 0 11 = 0) :
    ∃ P' R' Sf' σf' Mf' s', X4_visit n τ P (nI i) = some P' ∧ X8_from n R (nI i) = some R' ∧ xI n τ P' R' N m kd nx ot G Sf' σf' Mf' s' ∧ eI P' R' m Sf' Mf' (i + 1) ∧ s ≤ s' ∧ xF P P' R R' := by
  obtain ⟨P1, R1, Sf1, σf1, Mf1, s1, mv, v1, v2, v3, ⟨e1, e2⟩, v5, v6⟩ := visit_both n hn hX hi h11
  obtain ⟨f1, f2, f3, f4, f5, f6⟩ := v5
  obtain ⟨w1, w2, w3, w4, w5, w6, w7, w8, w9⟩ := v3
  have m8 := w2.2.2.2.1
  have hSm := w2.2.2.2.2.1
  have s200 := w1.1
  have hoc : ordF (rowF Sf1 m Mf1) (isF R1) i = ordF (rowF Sf m Mf) (isF R) i := ord_congr i (fun j hj => by
    obtain ⟨q1, q2, q3⟩ := e2 j (by omega)
    unfold rowF isF
    rw [q1, q3, f6 j (by omega)]
    exact ⟨rfl, rfl⟩)
  obtain ⟨x1, x2, x3⟩ := hE
  have y1 : ∀ j, j < i → R1 23 j = 0 ∨ (R1 23 j = 1 ∧ P1 25 j = knd (Sf1 j) m) := fun j hj => by
    rw [f6 j (by omega), f1 25 (by omega) (by omega) (by omega), (e2 j (by omega)).1]
    exact x1 j hj
  have y2 : P1 0 10 = nI (ordF (rowF Sf1 m Mf1) (isF R1) i).2 := by rw [hoc, f2 10 (by omega) (by omega)]; exact x2
  have y3 : ∀ e, e < (ordF (rowF Sf1 m Mf1) (isF R1) i).2 → P1 26 e = nI ((ordF (rowF Sf1 m Mf1) (isF R1) i).1 e) := fun e he => by
    rw [hoc] at he ⊢
    rw [f1 26 (by omega) (by omega) (by omega)]
    exact x3 e he
  have hxF : xF P P1 R R1 := ⟨fun c q1 q2 => f1 c q1 (by omega) (by omega), fun k q => f2 k (by omega) (by omega), fun c q1 q2 => f4 c q1 q2, fun k q => f5 k q⟩
  rcases v6 with ⟨z1, z2, z3⟩ | ⟨z1, z2⟩
  · -- an ENDING
    subst z1
    obtain ⟨kk, hkk⟩ : ∃ kk, kk = knd (Sf1 i) m := ⟨_, rfl⟩
    have hk : knd (am_sub P1 1) m = kk := by rw [hkk]; exact knd_congr w5.1
    obtain ⟨P2, hP2⟩ : ∃ P2, P2 = sC P1 25 (upd (P1 25) i kk) := ⟨_, rfl⟩
    have c2 : ∀ c, c ≠ 25 → P2 c = P1 c := fun c hc => by rw [hP2, sC_ne hc]
    have c25 : ∀ j, j < i → P2 25 j = P1 25 j := fun j hj => by
      rw [hP2]
      exact upd_ne (by omega)
    have c25i : P2 25 i = kk := by rw [hP2]; exact upd_eq
    have S := srt_ord (row := rowF Sf1 m Mf1) (isE := isF R1) i
    have hord : ordF (rowF Sf1 m Mf1) (isF R1) (i + 1) = insF (rowF Sf1 m Mf1) (ordF (rowF Sf1 m Mf1) (isF R1) i) i := if_pos (decide_eq_true z2)
    generalize hOF : ordF (rowF Sf1 m Mf1) (isF R1) i = oF at *
    obtain ⟨o, F⟩ := oF
    obtain ⟨p, p1, p2, p3⟩ := srt_cut S (rowF Sf1 m Mf1 i)
    dsimp only at p1 p2 p3 y2 y3
    have hFi : F ≤ i := S.1
    have hrow : ∀ e, e < F → eRow P2 m (o e) (Mf1 (o e)) (Sf1 (o e)) := fun e he => by
      obtain ⟨q1, q2⟩ := S.2.1 e he
      dsimp only at q1 q2
      refine eRow_sp w1 (show o e < s1 by omega) (c2 20 (by omega)) (c2 22 (by omega)) ?_
      rw [c25 _ q1]
      rcases y1 (o e) q1 with q3 | q3
      · have : R1 23 (o e) = 1 := of_decide_eq_true q2
        rw [q3] at this
        exact absurd this (by decide)
      · exact q3.2
    have hrowi : eRow P2 m i (Mf1 i) (Sf1 i) := eRow_sp w1 w4 (c2 20 (by omega)) (c2 22 (by omega)) (by rw [c25i, hkk])
    have hcmp : ∀ e, e < F → X4_compare n P2 (nI (o e)) (nI i) = some (cmR (rowF Sf1 m Mf1) o i e) := fun e he => by
      have q1 := (S.2.1 e he).1
      dsimp only at q1
      exact cmpP_eq n hn m8 (by omega) (by omega) (by rw [c2 0 (by omega)]; exact w1.2.2.2.1) (hrow e he) hrowi
    have hp2 : p < F → cmR (rowF Sf1 m Mf1) o i p = 0 ∨ cmR (rowF Sf1 m Mf1) o i p = 1 := fun q => by
      rcases p3 with ⟨u1, u2, u3⟩ | u
      · exact Or.inl u2
      · exact Or.inr (u p (Nat.le_refl _) q)
    obtain ⟨g, g1, g2⟩ := addE_cl n hn (P := P2) (o := o) (F := F) (i := i) (p := p) (c := cmR (rowF Sf1 m Mf1) o i) (by omega) (by omega) (by rw [c2 0 (by omega)]; exact y2) (fun e he => by rw [c2 26 (by omega)]; exact y3 e he) hcmp p1 p2 hp2
    have hins := srt_cnt (row := rowF Sf1 m Mf1) (o := o) (i := i) p1 p2 (fun e q1 q2 => by
      show lx (rowF Sf1 m Mf1 (o e)) (rowF Sf1 m Mf1 i) 0 11 ≠ -1
      rcases p3 with ⟨u1, u2, u3⟩ | u
      · by_cases y : e = p
        · subst y; rw [u2]; decide
        · rw [u3 e (by omega) q2]; decide
      · rw [u e q1 q2]; decide)
    obtain ⟨P3, hP3⟩ : ∃ P3, P3 = if p < F ∧ cmR (rowF Sf1 m Mf1) o i p = 0 then P2 else sC (sC P2 0 (am_u (P2 0) 10 (nI (F + 1)))) 26 g := ⟨_, rfl⟩
    rw [← hP3] at g1
    have d1 : ∀ c, c ≠ 0 → c ≠ 25 → c ≠ 26 → P3 c = P1 c := fun c q1 q2 q3 => by
      rw [hP3]
      split
      · exact c2 c q2
      · rw [sC_ne q3, sC_ne q1, c2 c q2]
    have d0 : ∀ k, k ≠ 10 → P3 0 k = P1 0 k := fun k q => by
      rw [hP3]
      split
      · rw [c2 0 (by omega)]
      · show am_u (P2 0) 10 (nI (F + 1)) k = _
        rw [am_u_ne q, c2 0 (by omega)]
    have d25 : P3 25 = P2 25 := by
      rw [hP3]
      split
      · rfl
      · rw [sC_ne (by omega), sC_ne (by omega)]
    refine ⟨P3, R1, Sf1, σf1, Mf1, s1, ?_, v2, ⟨spI_congr (fun c q1 q2 => d1 c (by omega) (by omega) (by omega)) (d0 9 (by omega)) (d0 13 (by omega)) rfl rfl rfl w1, ?_, by rw [d1 1 (by omega) (by omega) (by omega)]; exact w3, w6, w7, by rw [d1 27 (by omega) (by omega) (by omega)]; exact w8, by rw [d0 11 (by omega)]; exact w9⟩, ⟨fun j hj => ?_, ?_, fun e he => ?_⟩, e1, xF_t hxF ⟨fun c q1 q2 => d1 c (by omega) (by omega) (by omega), fun k q => d0 k (by omega), fun _ _ _ => rfl, fun _ _ => rfl⟩⟩
    · rw [v1]
      unfold vfin
      rw [if_pos rfl, outcome_eq n hn m8 hSm, hk]
      dsimp only [Option.bind]
      rw [jput_nI (by omega) (by omega), ← hP2, g1]
    · exact rB_congr (S := am_sub P1 1) (σ := R1) (fun c q1 q2 => d1 (1 + c) (by omega) (by omega) (by omega)) (congrFun (d1 1 (by omega) (by omega) (by omega)) 1) (congrFun (d1 1 (by omega) (by omega) (by omega)) 2) (fun _ _ _ => rfl) rfl rfl w2
    · rw [d25]
      by_cases q : j = i
      · subst q; exact Or.inr ⟨z2, by rw [c25i, hkk]⟩
      · rw [c25 j (by omega)]; exact y1 j (by omega)
    · rw [hord, hins, hP3]
      split
      · rw [c2 0 (by omega)]; exact y2
      · rfl
    · rw [hord, hins] at he ⊢
      rw [hP3]
      split
      · rename_i u
        rw [if_pos u] at he
        rw [c2 26 (by omega)]; exact y3 e he
      · rename_i u
        rw [if_neg u] at he
        exact g2 e he
  · subst z1
    have hord : ordF (rowF Sf1 m Mf1) (isF R1) (i + 1) = ordF (rowF Sf1 m Mf1) (isF R1) i := if_neg (by
      show ¬ decide (R1 23 i = 1) = true
      rw [z2]; decide)
    refine ⟨P1, R1, Sf1, σf1, Mf1, s1, ?_, v2, ⟨w1, w2, w3, w6, w7, w8, w9⟩, ⟨fun j hj => ?_, by rw [hord]; exact y2, fun e he => by rw [hord] at he ⊢; exact y3 e he⟩, e1, hxF⟩
    · rw [v1]
      unfold vfin
      rw [if_neg (by decide)]
    · by_cases q : j = i
      · subst q; exact Or.inl z2
      · exact y1 j (by omega)
theorem expl_loop (n : Nat) (hn : 2200 < n) {τ : Nat → Int64} {N m : Nat} {kd nx ot : Nat → Nat} {G : Nat → Nat → List Int32} : ∀ (d i K K' : Nat) (P R : am_M) (Sf σf : Nat → am_M) (Mf : Nat → Nat) (s : Nat), i + d = 200 → d < K → d < K' → xI n τ P R N m kd nx ot G Sf σf Mf s → eI P R m Sf Mf i → i ≤ s →
    ∃ P' R' Sf' σf' Mf' s', X4_explore_L116 n K P τ (nI i) = some (P', τ, 12) ∧ X8_go_L47 n K' R (nI i) = some (decide (R' 0 48 = 0), R') ∧ xI n τ P' R' N m kd nx ot G Sf' σf' Mf' s' ∧ (R' 0 48 = 0 → eI P' R' m Sf' Mf' s') ∧ xF P P' R R' := by
  intro d
  induction d with
  | zero =>
    intro i K K' P R Sf σf Mf s hd hK hK' hX hE his
    obtain ⟨K, rfl⟩ : ∃ J, K = J + 1 := ⟨K - 1, by omega⟩
    obtain ⟨K', rfl⟩ : ∃ J, K' = J + 1 := ⟨K' - 1, by omega⟩
    have s200 := hX.1.1
    have e : s = i := by omega
    refine ⟨P, R, Sf, σf, Mf, s, ?_, ?_, hX, fun _ => by rw [e]; exact hE, xF_r⟩
    · simp only [X4_explore_L116, X4_explore_B116]
      rw [if_pos (by rw [show (200 : Int32) = nI 200 from rfl, pu_le (by omega) (by omega)]; omega)]
    · simp only [X8_go_L47, X8_go_B47, X8_go_J73]
      rw [hX.1.2.2.1, if_pos (by rw [pu_le (by omega) (by omega)]; omega)]
      split
      · rename_i q; rw [decide_eq_true q]
      · rename_i q; rw [decide_eq_false q]
  | succ d ih =>
    intro i K K' P R Sf σf Mf s hd hK hK' hX hE his
    obtain ⟨K, rfl⟩ : ∃ J, K = J + 1 := ⟨K - 1, by omega⟩
    obtain ⟨K', rfl⟩ : ∃ J, K' = J + 1 := ⟨K' - 1, by omega⟩
    have s200 := hX.1.1
    have h9 := hX.1.2.1
    have h46 := hX.1.2.2.1
    have n200 : ¬ (200 : Int32) ≤ nI i := by rw [show (200 : Int32) = nI 200 from rfl, pu_le (by omega) (by omega)]; omega
    by_cases hsi : s ≤ i
    · have e : s = i := by omega
      refine ⟨P, R, Sf, σf, Mf, s, ?_, ?_, hX, fun _ => by rw [e]; exact hE, xF_r⟩
      · simp only [X4_explore_L116, X4_explore_B116]
        rw [if_neg n200, h9, if_pos (by rw [pu_le (by omega) (by omega)]; omega)]
      · simp only [X8_go_L47, X8_go_B47, X8_go_J73]
        rw [h46, if_pos (by rw [pu_le (by omega) (by omega)]; omega)]
        split
        · rename_i q; rw [decide_eq_true q]
        · rename_i q; rw [decide_eq_false q]
    · rcases hX.2.2.2.2.2.2 with ⟨z1, z2⟩ | ⟨z1, z2⟩
      · obtain ⟨P1, R1, Sf1, σf1, Mf1, s1, v1, v2, v3, v4, v5, v6⟩ := expl_step n hn hX hE (show i < s by omega) z1
        obtain ⟨P2, R2, Sf2, σf2, Mf2, s2, y1, y2, y3, y4, y5⟩ := ih (i + 1) K K' P1 R1 Sf1 σf1 Mf1 s1 (by omega) (by omega) (by omega) v3 v4 (by omega)
        refine ⟨P2, R2, Sf2, σf2, Mf2, s2, ?_, ?_, y3, y4, xF_t v6 y5⟩
        · simp only [X4_explore_L116, X4_explore_B116]
          rw [if_neg n200, h9, if_neg (by rw [pu_le (by omega) (by omega)]; omega), if_pos z1, v1]
          dsimp only [Option.bind]
          rw [nI_1]
          exact y1
        · simp only [X8_go_L47, X8_go_B47]
          rw [h46, if_neg (by rw [pu_le (by omega) (by omega)]; omega), if_pos z2, v2]
          dsimp only [Option.bind]
          rw [nI_1]
          exact y2
      · refine ⟨P, R, Sf, σf, Mf, s, ?_, ?_, hX, fun q => absurd q (by rw [z2]; decide), xF_r⟩
        · simp only [X4_explore_L116, X4_explore_B116]
          rw [if_neg n200, h9, if_neg (by rw [pu_le (by omega) (by omega)]; omega), if_neg (by rw [z1]; decide)]
        · simp only [X8_go_L47, X8_go_B47, X8_go_J73]
          rw [h46, if_neg (by rw [pu_le (by omega) (by omega)]; omega), if_neg (by rw [z2]; decide), if_neg (by rw [z2]; decide), decide_eq_false (by rw [z2]; decide)]
