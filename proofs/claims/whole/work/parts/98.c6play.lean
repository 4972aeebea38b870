/-! PLAYING: MOVE behind MOVE -/
theorem rClk_congr {S S' σ σ' : am_M} {M B : Nat} (h6 : S' 6 = S 6) (h8 : S' 8 = S 8) (h9 : S' 9 = S 9) (h10 : S' 10 = S 10) (h3 : S' 0 3 = S 0 3) (h4 : S' 0 4 = S 0 4) (q17 : σ' 17 = σ 17) (q18 : σ' 18 = σ 18) (q19 : σ' 19 = σ 19) (q20 : σ' 20 = σ 20) (q5 : σ' 0 5 = σ 0 5) (q6 : σ' 0 6 = σ 0 6) (h : rClk S σ M B) : rClk S' σ' M B := by
  unfold rClk at h ⊢
  rw [h6, h8, h9, h10, h3, h4, q17, q18, q19, q20, q5, q6]
  exact h
def pI (n : Nat) (τ : Nat → Int64) (P R : am_M) (N m : Nat) (kd nx ot : Nat → Nat) (G : Nat → Nat → List Int32) (M i c : Nat) : Prop := rB n (am_sub τ 1) (am_sub P 1) R N m kd nx ot G ∧ rQ (am_sub P 1) R N m kd G M ∧ P 1 15 = 0 ∧ zr R m ∧ M ≤ sumF (ph (am_sub P 1) N) m ∧ i ≤ sumF (ph (am_sub P 1) N) m ∧ rClk (am_sub P 1) R M (1000 * i) ∧ c ≤ i ∧ P 0 4 = nI c ∧ R 0 59 = nI c ∧ ∀ x, x < c → P 20 x = R 29 x
def pF (P P' R R' : am_M) : Prop := (∀ c, 12 ≤ c → c ≠ 20 → P' c = P c) ∧ (∀ k, k ≠ 4 → P' 0 k = P 0 k) ∧ (∀ k, k ≤ 11 → P' 1 k = P 1 k) ∧ (∀ c, 1 ≤ c → c < 15 ∨ 20 < c → c ≠ 29 → R' c = R c) ∧ (∀ k, k < 35 ∨ (35 < k ∧ k < 40) ∨ (42 < k ∧ k ≠ 59) → R' 0 k = R 0 k)
theorem pF_r {P R : am_M} : pF P P R R := ⟨fun _ _ _ => rfl, fun _ _ => rfl, fun _ _ => rfl, fun _ _ _ _ => rfl, fun _ _ => rfl⟩
theorem pF_t {P P' P2 R R' R2 : am_M} (a : pF P P' R R') (b : pF P' P2 R' R2) : pF P P2 R R2 := ⟨fun c h1 h2 => (b.1 c h1 h2).trans (a.1 c h1 h2), fun k h => (b.2.1 k h).trans (a.2.1 k h), fun k h => (b.2.2.1 k h).trans (a.2.2.1 k h), fun c h1 h2 h3 => (b.2.2.2.1 c h1 h2 h3).trans (a.2.2.2.1 c h1 h2 h3), fun k h => (b.2.2.2.2 k h).trans (a.2.2.2.2 k h)⟩
theorem ph_320 {S σ : am_M} {N m : Nat} {kd : Nat → Nat} {G : Nat → Nat → List Int32} (hN : N ≤ 40) (m8 : m ≤ 8) (hd : ∀ h, h < m → rHD S σ N m kd G h) : sumF (ph S N) m ≤ 320 := by
  have := sumF_bd (f := ph S N) (c := 40) m (fun j hj => ph_le hN (hd j hj))
  omega
theorem pI_35 {n : Nat} {τ : Nat → Int64} {P R : am_M} {N m M i c : Nat} {kd nx ot : Nat → Nat} {G : Nat → Nat → List Int32} {u : Int32} {st : Nat → Int32} (h : pI n τ P R N m kd nx ot G M i c) : pI n τ P (sC (sC R 0 (am_u (R 0) 35 u)) 16 st) N m kd nx ot G M i c := by
  obtain ⟨h1, h2, h3, h4, h5, h6, h7, h8, h9, h10, h11⟩ := h
  exact ⟨rB_congr (S := am_sub P 1) (σ := R) (fun _ _ _ => rfl) rfl rfl (fun c q1 q2 => by rw [sC_ne (by omega), sC_ne (by omega)]) rfl rfl h1, rQ_congr h1.2.2.2.1 rfl (fun _ _ _ => rfl) rfl h2, h3, h4, h5, h6, rClk_congr (S := am_sub P 1) (σ := R) rfl rfl rfl rfl rfl rfl rfl rfl rfl rfl rfl rfl h7, h8, h9, h10, h11⟩
theorem pmove (n : Nat) (hn : 2200 < n) {τ : Nat → Int64} {P R : am_M} {N m M i c h p : Nat} {kd nx ot : Nat → Nat} {G : Nat → Nat → List Int32} (hI : pI n τ P R N m kd nx ot G M i c) (hh : h < m) (hp : p < m) (hC : CN n (am_sub P 1) m M h (R 0 35) (nI p)) : ∃ P' R' M' c', clMV n τ P (nI h) (nI p) = some (true, P') ∧ (∀ kk, rfMV n kk R (nI c) (nI h) (nI p) = kk R' (nI c')) ∧ pI n τ P' R' N m kd nx ot G M' (i + 1) c' ∧ pF P P' R R' ∧ sumF (ph (am_sub P 1) N) m < sumF (ph (am_sub P' 1) N) m := by
  obtain ⟨h1, h2, h3, h4, h5, h6, h7, h8, h9, h10, h11⟩ := hI
  have m8 := h1.2.2.2.1
  have hN4 := h1.1.1
  obtain ⟨S1, S', σ', M', w1, w2, w3, w4⟩ := move_both n hn h1 h2 h3 h4 h5 hh hC (fun _ => ⟨p, hp, rfl⟩)
  obtain ⟨v1, v2, v3, v4, v5, v6, v7, v8, v9, v10, v11, v12⟩ := w4
  have hs320 := ph_320 hN4 m8 v2.1
  have e1 : am_sub (am_put P 1 19 S1) 1 = S1 := sub_put (fun c hc => frm_move w1 c (by omega))
  obtain ⟨Q, hQ⟩ : ∃ Q, Q = am_put P 1 19 S' := ⟨_, rfl⟩
  have Qs : ∀ c, c < 19 → Q (1 + c) = S' c := fun c hc => by
    rw [hQ, am_put_in (by omega) (by omega), show 1 + c - 1 = c by omega]
  have Qo : ∀ c, c < 1 ∨ 20 ≤ c → Q c = P c := fun c hc => by rw [hQ, am_put_ne (by omega)]
  have Q1 : Q 1 = S' 0 := Qs 0 (by omega)
  have hcl : clMV n τ P (nI h) (nI p) = (X0_noteChoice Q).bind (fun q6 => some (true, q6)) := by
    unfold clMV
    rw [w1]
    dsimp only [Option.bind]
    rw [e1, w2]
    dsimp only
    rw [put_put, ← hQ]
  have hc320 : c < 320 := by omega
  -- the class
  obtain ⟨P', c', R', hP', hR', c1, p1, p2, p3, p4, r1, r2, r3, r4⟩ : ∃ P' c' R', X0_noteChoice Q = some P' ∧ (∀ kk : am_M → Int32 → Option (Int32 × am_M), (if (σ' 0 40) = (-1) then kk σ' (nI c) else (if (σ' 0 59) < 0 ∨ 320 ≤ (σ' 0 59).toNatClampNeg then none else kk (sC (sC σ' 0 (am_u (σ' 0) 59 ((σ' 0 59) + 1))) 29 (upd (σ' 29) (σ' 0 59).toNatClampNeg (σ' 0 41))) (nI c + 1))) = kk R' (nI c')) ∧ c' ≤ i + 1 ∧ (∀ x, x ≠ 0 → x ≠ 20 → P' x = Q x) ∧ (∀ k, k ≠ 4 → P' 0 k = Q 0 k) ∧ P' 0 4 = nI c' ∧ R' 0 59 = nI c' ∧ (∀ x, x ≠ 0 → x ≠ 29 → R' x = σ' x) ∧ (∀ k, k ≠ 59 → R' 0 k = σ' 0 k) ∧ (∀ x, x < c' → P' 20 x = R' 29 x) ∧ True := by
    have hQ04 : Q 0 4 = nI c := by rw [Qo 0 (by omega)]; exact h9
    have h59 : σ' 0 59 = nI c := by rw [v11 59 (by omega)]; exact h10
    have h29 : σ' 29 = R 29 := v10 29 (by omega) (by omega)
    have hQ20 : Q 20 = P 20 := Qo 20 (by omega)
    unfold X0_noteChoice
    rw [Q1]
    rcases v12 with ⟨z1, z2⟩ | ⟨a, t, f, z1, z2, z3, z4, z5, z6, z7, z8, z9, z10⟩
    · refine ⟨Q, c, σ', by rw [if_pos z1], fun kk => by rw [if_pos z2], by omega, fun _ _ _ => rfl, fun _ _ => rfl, hQ04, h59, fun _ _ _ => rfl, fun _ _ => rfl, fun x hx => by rw [hQ20, h29]; exact h11 x hx, trivial⟩
    · refine ⟨sC (sC Q 0 (am_u (Q 0) 4 (nI (c + 1)))) 20 (upd (Q 20) c (nI f)), c + 1, sC (sC σ' 0 (am_u (σ' 0) 59 (nI (c + 1)))) 29 (upd (σ' 29) c (nI f)), ?_, fun kk => ?_, by omega, fun x q1 q2 => by rw [sC_ne q2, sC_ne q1], fun k q => am_u_ne q, rfl, rfl, fun x q1 q2 => by rw [sC_ne q2, sC_ne q1], fun k q => am_u_ne q, fun x hx => ?_, trivial⟩
      · rw [if_neg (by rw [z1]; exact pu_ne1 (by omega)), hQ04, nI_1, jput_nI (by omega) (by omega), z5]
      · rw [if_neg (by rw [z2]; exact pu_ne1 (by omega)), h59, if_neg (pu_g (n := 320) (by omega) (by omega)), nI_clamp (by omega), nI_1, z6]
      · show upd (Q 20) c (nI f) x = upd (σ' 29) c (nI f) x
        by_cases y : x = c
        · rw [y, upd_eq, upd_eq]
        · rw [upd_ne y, upd_ne y, hQ20, h29]
          exact h11 x (by omega)
  have ps : ∀ x, x < 19 → P' (1 + x) = S' x := fun x hx => (p1 (1 + x) (by omega) (by omega)).trans (Qs x hx)
  have pS1 : am_sub P' 1 1 = S' 1 := ps 1 (by omega)
  have pS0 : P' 1 = S' 0 := ps 0 (by omega)
  have hph : sumF (ph (am_sub P' 1) N) m = sumF (ph S' N) m := sumF_congr m (fun j _ => ph_congr (congrFun pS1 _) (congrFun pS1 _))
  refine ⟨P', R', M', c', by rw [hcl, hP']; rfl, fun kk => ?_, ⟨?_, ?_, ?_, ?_, ?_, ?_, ?_, c1, p3, p4, r3⟩, ⟨fun x q1 q2 => ?_, fun k q => ?_, fun k q => ?_, fun x q1 q2 q3 => ?_, fun k q => ?_⟩, by rw [hph]; exact v5⟩
  · unfold rfMV
    rw [w3]
    exact hR' kk
  · exact rB_congr (S := S') (σ := σ') (fun x q1 q2 => ps x (by omega)) (congrFun pS0 1) (congrFun pS0 2) (fun x q1 q2 => r1 x (by omega) (by omega)) (r2 3 (by omega)) (r2 4 (by omega)) v1
  · exact rQ_congr (S := S') (σ := σ') m8 pS1 (fun x q1 q2 => ps x (by omega)) (r1 15 (by omega) (by omega)) v2
  · rw [pS0]; exact v3
  · intro j q1 q2
    rw [r1 15 (by omega) (by omega)]
    exact v4 j q1 q2
  · rw [hph]; omega
  · rw [hph]; omega
  · have := v7 (1000 * i) (by omega) h7
    exact rClk_congr (S := S') (σ := σ') (ps 6 (by omega)) (ps 8 (by omega)) (ps 9 (by omega)) (ps 10 (by omega)) (congrFun pS0 3) (congrFun pS0 4) (r1 17 (by omega) (by omega)) (r1 18 (by omega) (by omega)) (r1 19 (by omega) (by omega)) (r1 20 (by omega) (by omega)) (r2 5 (by omega)) (r2 6 (by omega)) (by rw [show 1000 * (i + 1) = 1000 * i + 1000 by omega]; exact this)
  · by_cases q3 : x < 20
    · rw [p1 x (by omega) q2, show x = 1 + (x - 1) by omega, Qs (x - 1) (by omega), v8 (x - 1) (by omega)]
    · rw [p1 x (by omega) q2, Qo x (by omega)]
  · rw [p2 k q, Qo 0 (by omega)]
  · rw [pS0, v9 k q]
  · rw [r1 x (by omega) q3, v10 x (by omega) q2]
  · rw [r2 k (by omega), v11 k (by omega)]
theorem pone (n : Nat) (hn : 2200 < n) {τ : Nat → Int64} {P R : am_M} {N m many M i c Kc Kr : Nat} {kd nx ot : Nat → Nat} {G : Nat → Nat → List Int32} (hmany : many ≤ 16) (hv : ∀ x, x < many → ∃ k, k < m ∧ chv (τ 0) x = nI k) (h01 : P 0 1 = nI many) (hI : pI n τ P R N m kd nx ot G M i c) (hKr : 0 < Kr) :
    (∃ R', X0_run_L35 n (Kc + 1) P τ (nI i) = X0_run_J59 n P τ ∧ X8_run_L55 n (Kr + 1) R (nI many) (τ 0) (nI c) 1 = (X8_kindNow n R').bind (fun q2 => some (q2, R')) ∧ pI n τ P R' N m kd nx ot G M i c ∧ pF P P R R' ∧ R' 0 35 = -1) ∨ (∃ P' R' M' c', X0_run_L35 n (Kc + 1) P τ (nI i) = X0_run_L35 n Kc P' τ (nI (i + 1)) ∧ X8_run_L55 n (Kr + 1) R (nI many) (τ 0) (nI c) 1 = X8_run_L55 n Kr R' (nI many) (τ 0) (nI c') 1 ∧ pI n τ P' R' N m kd nx ot G M' (i + 1) c' ∧ pF P P' R R' ∧ sumF (ph (am_sub P 1) N) m < sumF (ph (am_sub P' 1) N) m) := by
  have hI0 := hI
  obtain ⟨h1, h2, h3, h4, h5, h6, h7, h8, h9, h10, h11⟩ := hI
  have m8 := h1.2.2.2.1
  have hs320 := ph_320 h1.1.1 m8 h2.1
  obtain ⟨u, hu⟩ : ∃ u, u = if many ≤ c then -1 else chv (τ 0) c := ⟨_, rfl⟩
  have huv : u = -1 ∨ ∃ k, k < m ∧ u = nI k := by
    rw [hu]
    by_cases q : many ≤ c
    · rw [if_pos q]; exact Or.inl rfl
    · rw [if_neg q]; exact Or.inr (hv c (by omega))
  have hml : X0_moveLeast n τ P = X0_moveLeast_L29 n τ n P u (nI 0) := by
    unfold X0_moveLeast X0_moveLeast_J26
    rw [h01, h9, hu, nI_0]
    by_cases q : many ≤ c
    · rw [if_pos q, if_pos (by rw [pu_le (by omega) (by omega)]; exact q)]
    · rw [if_neg q, if_neg (by rw [pu_le (by omega) (by omega)]; exact q), choice_eq (τ 0) (show c < 16 by omega)]
      rfl
  obtain ⟨R0, hR0⟩ : ∃ R0, R0 = sC R 0 (am_u (R 0) 35 u) := ⟨_, rfl⟩
  have hI1 : pI n τ P R0 N m kd nx ot G M i c := by
    have := pI_35 (u := u) (st := (sC R 0 (am_u (R 0) 35 u)) 16) hI0
    rw [sC_self] at this
    rw [hR0]; exact this
  have R35 : R0 0 35 = u := by rw [hR0]
  have hrl : X8_run_L55 n (Kr + 1) R (nI many) (τ 0) (nI c) 1 = X8_run_L90 n (X8_run_L55 n Kr) n R0 (nI many) (τ 0) (nI c) 0 (nI 0) := by
    simp only [X8_run_L55, X8_run_B55, X8_run_J81]
    rw [if_neg (show ¬ (1 : Int32) = 0 by decide), hR0, hu, nI_0]
    by_cases q : many ≤ c
    · rw [if_pos (by rw [pu_le (by omega) (by omega)]; exact q), if_pos q]
    · rw [if_neg (by rw [pu_le (by omega) (by omega)]; exact q), if_neg q]
      rfl
  have hcl : ∀ x, X0_moveLeast n τ P = some x → X0_run_L35 n (Kc + 1) P τ (nI i) = if x.1 = true then X0_run_L35 n Kc x.2 τ (nI (i + 1)) else X0_run_J59 n x.2 τ := fun x hx => by
    simp only [X0_run_L35, X0_run_B35]
    rw [if_neg (show ¬ (328 : Int32) ≤ nI i by rw [show (328 : Int32) = nI 328 from rfl, pu_le (by omega) (by omega)]; omega), hx]
    dsimp only [Option.bind]
    rw [nI_1]
  have RB := round_both n hn (l1 := nI many) (c := nI c) (ch := τ 0) hI1.1 hI1.2.1 (by rw [R35]; exact huv) (X8_run_L55 n Kr) m 0 n n (R0 16) (by omega) (by omega) (by omega)
  rw [sC_self, R35] at RB
  rcases RB with ⟨a1, st', a2⟩ | ⟨h', p, st', a1, a2, a3, a4, a5⟩
  · rw [hml] at hcl
    have e1 := hcl _ a1
    rw [if_neg (show ¬ ((false, P).1 = true) from Bool.false_ne_true)] at e1
    obtain ⟨Kr, rfl⟩ : ∃ J, Kr = J + 1 := ⟨Kr - 1, by omega⟩
    obtain ⟨X, hX⟩ : ∃ X, X = sC R0 16 st' := ⟨_, rfl⟩
    have hIX : pI n τ P X N m kd nx ot G M i c := by
      have := pI_35 (u := u) (st := st') hI0
      rw [hX, hR0]; exact this
    have hIY : pI n τ P (sC X 0 (am_u (X 0) 35 (-1))) N m kd nx ot G M i c := by
      have := pI_35 (u := -1) (st := (sC X 0 (am_u (X 0) 35 (-1))) 16) hIX
      rw [sC_self] at this
      exact this
    refine Or.inl ⟨sC X 0 (am_u (X 0) 35 (-1)), e1, ?_, hIY, ⟨fun _ _ _ => rfl, fun _ _ => rfl, fun _ _ => rfl, fun x q1 q2 q3 => ?_, fun k q => ?_⟩, rfl⟩
    · rw [hrl, a2, ← hX]
      simp only [X8_run_L55, X8_run_B55]
      rw [if_pos True.intro]
    · rw [sC_ne (by omega), hX, sC_ne (by omega), hR0, sC_ne (by omega)]
    · rw [hX, hR0]
      show am_u (am_u (R 0) 35 u) 35 (-1) k = _
      rw [am_u_ne (by omega), am_u_ne (by omega)]
  · rw [hml] at hcl
    have hIX : pI n τ P (sC R0 16 st') N m kd nx ot G M i c := by
      have := pI_35 (u := u) (st := st') hI0
      rw [hR0]; exact this
    obtain ⟨P', R', M', c', y1, y2, y3, y4, y5⟩ := pmove n hn hIX a1 a2 (by
      show CN n (am_sub P 1) m M h' (R0 0 35) (nI p)
      rw [R35]; exact a3)
    rw [a4] at hcl
    have e1 := hcl _ y1
    rw [if_pos rfl] at e1
    refine Or.inr ⟨P', R', M', c', e1, ?_, y3, pF_t ⟨fun _ _ _ => rfl, fun _ _ => rfl, fun _ _ => rfl, fun x q1 q2 q3 => ?_, fun k q => ?_⟩ y4, y5⟩
    · rw [hrl, a5, y2]
    · rw [sC_ne (by omega), hR0, sC_ne (by omega)]
    · rw [hR0]
      show am_u (R 0) 35 u k = _
      rw [am_u_ne (by omega)]
theorem ploop (n : Nat) (hn : 2200 < n) {τ : Nat → Int64} {N m many : Nat} {kd nx ot : Nat → Nat} {G : Nat → Nat → List Int32} (hmany : many ≤ 16) (hv : ∀ x, x < many → ∃ k, k < m ∧ chv (τ 0) x = nI k) : ∀ (d i Kc Kr : Nat) (P R : am_M) (M c : Nat), 320 ≤ sumF (ph (am_sub P 1) N) m + d → d < Kc → d + 1 < Kr → P 0 1 = nI many → pI n τ P R N m kd nx ot G M i c →
    ∃ P' R' M' i' c', X0_run_L35 n Kc P τ (nI i) = X0_run_J59 n P' τ ∧ X8_run_L55 n Kr R (nI many) (τ 0) (nI c) 1 = (X8_kindNow n R').bind (fun q2 => some (q2, R')) ∧ pI n τ P' R' N m kd nx ot G M' i' c' ∧ pF P P' R R' ∧ R' 0 35 = -1 := by
  intro d
  induction d with
  | zero =>
    intro i Kc Kr P R M c hd hKc hKr h01 hI
    obtain ⟨Kc, rfl⟩ : ∃ J, Kc = J + 1 := ⟨Kc - 1, by omega⟩
    obtain ⟨Kr, rfl⟩ : ∃ J, Kr = J + 1 := ⟨Kr - 1, by omega⟩
    rcases pone n hn (Kc := Kc) (Kr := Kr) hmany hv h01 hI (by omega) with ⟨R', a1, a2, a3, a4, a5⟩ | ⟨P', R', M', c', a1, a2, a3, a4, a5⟩
    · exact ⟨P, R', M, i, c, a1, a2, a3, a4, a5⟩
    · have := ph_320 a3.1.1.1 a3.1.2.2.2.1 a3.2.1.1
      omega
  | succ d ih =>
    intro i Kc Kr P R M c hd hKc hKr h01 hI
    obtain ⟨Kc, rfl⟩ : ∃ J, Kc = J + 1 := ⟨Kc - 1, by omega⟩
    obtain ⟨Kr, rfl⟩ : ∃ J, Kr = J + 1 := ⟨Kr - 1, by omega⟩
    rcases pone n hn (Kc := Kc) (Kr := Kr) hmany hv h01 hI (by omega) with ⟨R', a1, a2, a3, a4, a5⟩ | ⟨P', R', M', c', a1, a2, a3, a4, a5⟩
    · exact ⟨P, R', M, i, c, a1, a2, a3, a4, a5⟩
    · obtain ⟨P2, R2, M2, i2, c2, b1, b2, b3, b4, b5⟩ := ih (i + 1) Kc Kr P' R' M' c' (by omega) (by omega) (by omega) (by rw [a4.2.1 1 (by omega)]; exact h01) a3
      exact ⟨P2, R2, M2, i2, c2, a1.trans b1, a2.trans b2, b3, pF_t a4 b4, b5⟩
