/-! THE LAW'S CASES: how many HANDS at least -/
section LEAST
variable {n c L : Nat} {xs : Nat → Int32} {kont : (Nat → Nat) → am_M → (Nat → Int64) → (Nat → Int64) → am_M → Int32 → Option Bool} {χ : Nat → Nat} {σ : am_M} {τ o : Nat → Int64} {ρ : am_M} {k : Nat}
theorem hRel_29 {ρ' : am_M} (e : ∀ c, c ≠ 29 → ρ' c = ρ c) (h : hRel n c χ σ τ ρ) : hRel n c χ σ τ ρ' := by
  obtain ⟨F, H, N, m, x, y, v, tv, kd, nx, ot, G, D, h1, h2, h3, h4, h5, h6⟩ := h
  have e0 := e 0 (by omega)
  refine ⟨F, H, N, m, x, y, v, tv, kd, nx, ot, G, D, hS_gen (fun _ _ => rfl) (fun _ _ _ => rfl) (fun c q1 q2 => e c (by omega)) (fun k _ _ => by rw [e0]) (by rw [e 15 (by omega)]; exact h1.2.2.2.2.2.2.2.2.2.2.2.2.2.2.2.2.2.2.2.2.2) h1, h2, ?_, ?_, ?_, h6⟩
  · unfold hTd at h3 ⊢
    rw [e0]
    obtain ⟨a1, a2, a3, a4, a5, a6⟩ := h3
    exact ⟨a1, a2, a3, a4, a5, fun q => vT_congr (e 25 (by omega)) (e 26 (by omega)) (by rw [e0]) (by rw [e0]) (by rw [e0]) (a6 q)⟩
  · unfold hLf at h4 ⊢
    rw [e0, e 27 (by omega)]
    exact h4
  · unfold hPl at h5 ⊢
    rw [e0]
    refine ⟨h5.1, h5.2.imp id (fun q => ⟨q.1, q.2.1, q.2.2.1, q.2.2.2.1, plI_congr (e 28 (by omega)) (e 30 (by omega)) (e 31 (by omega)) (e 33 (by omega)) (e 34 (by omega)) (e 35 (by omega)) (by rw [e0]) (by rw [e0]) q.2.2.2.2⟩)⟩
theorem plI_P {P P' : am_M} {m : Nat} (e : ∀ c, c < 22 → P' c = P c) (h : plI n P ρ m) : plI n P' ρ m := by
  unfold plI at h ⊢
  rw [e 9 (by omega), e 10 (by omega), e 2 (by omega), e 0 (by omega), e 21 (by omega), e 20 (by omega)]
  obtain ⟨h1, h2, h3⟩ := h
  refine ⟨fun g hg => ?_, h2, h3⟩
  obtain ⟨a1, a2, a3, b, b1, b2, b3⟩ := h1 g hg
  exact ⟨a1, a2, a3, b, b1, by rw [cg_waits n (S := am_sub P 1) (S' := am_sub P' 1) (fun c hc => e (1 + c) (by omega)) (nI g)]; exact b2, b3⟩
theorem sg_lt {f g : am_M} {o q : Nat} (ho : 20 ≤ o) (e : ∀ k, k < o + q → f k = g k) : ∀ c, c < q + 8 → 12 ≤ q → am_sg f o c = am_sg g o c := fun c hc hq => by
  rw [sg_app, sg_app]
  by_cases h1 : c < 12
  · rw [if_pos h1, if_pos h1, e _ (by omega)]
  · rw [if_neg h1, if_neg h1]
    by_cases h2 : c < 20
    · rw [if_pos h2, if_pos h2, e _ (by omega)]
    · rw [if_neg h2, if_neg h2, e _ (by omega)]
theorem hRel_s {χ' : Nat → Nat} {σ' : am_M} {τ' : Nat → Int64} (e : ∀ k, k < 60 → σ' k = σ k) (t : ∀ k, k < 60 → τ' k = τ k) (x27 : χ' 27 = χ 27) (x47 : χ' 47 = χ 47) (x61 : χ' 61 < 200) (h : hRel n c χ σ τ ρ) : hRel n c χ' σ' τ' ρ := by
  obtain ⟨F, H, N, m, x, y, v, tv, kd, nx, ot, G, D, h1, h2, h3, h4, h5, h6⟩ := h
  have now := h1.2.2.2.2.2.2.2.2.2.2.2.2.2.2.2.2.2.2.2.2.2
  have e0 := e 0 (by omega)
  refine ⟨F, H, N, m, x, y, v, tv, kd, nx, ot, G, D, hS_gen (fun k hk => e k (by omega)) (fun k _ _ => by rw [e0]) (fun _ _ _ => rfl) (fun _ _ _ => rfl) now h1, ?_, h3, ?_, ?_, ⟨by rw [x27]; exact h6.1, by rw [x47]; exact h6.2.1, x61⟩⟩
  · unfold hRd at h2 ⊢
    rw [e 26 (by omega), t 26 (by omega)]
    exact h2.imp id (fun ⟨q1, m', q2, q3, q4⟩ => ⟨q1, m', q2, q3, vC_congr (fun x hx => sg_lt (o := 26) (q := 20) (by omega) (fun k hk => e k (by omega)) x (by omega) (by omega)) q4⟩)
  · unfold hLf at h4 ⊢
    rw [e0, t 0 (by omega)]
    exact h4
  · unfold hPl at h5 ⊢
    rw [e0, x47]
    exact ⟨h5.1, h5.2.imp id (fun q => ⟨q.1, q.2.1, q.2.2.1, q.2.2.2.1, plI_P (fun x hx => sg_lt (o := 46) (q := 14) (by omega) (fun k hk => e k (by omega)) x (by omega) (by omega)) q.2.2.2.2⟩)⟩
def lI (ρ R : am_M) (r : Nat) : Prop := (∀ c, 1 ≤ c → c < 15 ∨ 20 < c → c ≠ 29 → R c = ρ c) ∧ (∀ k, k ≠ 2 → k ≠ 3 → k ≠ 4 → k < 35 ∨ (35 < k ∧ k < 40) ∨ (42 < k ∧ k ≠ 59) → R 0 k = ρ 0 k) ∧ R 0 2 = 0 ∧ R 0 4 = nI r ∧ R 0 35 = -1 ∧ ∃ M', M' ≤ 320 ∧ R 15 64 = nI M'
theorem least_end {K l : Nat} {R : am_M} {a b v : Int32} (hv : v ≠ -1) : X8_least_L51 n (K + 1) R a b v (nI l) = some (v, sC R 0 (am_u (am_u (R 0) 3 b) 4 a)) := by
  simp only [X8_least_L51, X8_least_B51, X8_least_J90]
  by_cases h : 8 < nI l
  · rw [if_pos h]
  · rw [if_neg h, if_neg hv]
theorem least_run (hn : 2200 < n) {F H : am_M} {N m x y r : Nat} {kd nx ot : Nat → Nat} {G : Nat → Nat → List Int32} {D : Nat → Int32 → Int64 → VT} {σ0 : am_M} {τ0 : Nat → Int64} {χ0 : Nat → Nat} (h1 : hS n F H σ0 ρ N m x y kd nx ot G D) : ∀ (d l K K' : Nat) (χ : Nat → Nat) (σ : am_M) (τ : Nat → Int64) (R : am_M), l + d = 9 → d < K → d + 1 < K' → 2 ≤ l → (∀ k, k < 60 → σ k = σ0 k) → (∀ k, k < 60 → τ k = τ0 k) → lI ρ R r → χ 27 = χ0 27 → χ 47 = χ0 47 → χ 61 < 200 → ∃ b χ' σ' τ' R', X7_least_L32 n K σ τ χ (nI r) (nI l) = some (some b, σ', τ', χ') ∧ X8_least_L51 n K' R (ρ 0 4) (ρ 0 3) (-1) (nI l) = some (b, sC R' 0 (am_u (am_u (R' 0) 3 (ρ 0 3)) 4 (ρ 0 4))) ∧ (∀ k, k < 60 → σ' k = σ0 k) ∧ (∀ k, k < 60 → τ' k = τ0 k) ∧ lI ρ R' r ∧ χ' 27 = χ0 27 ∧ χ' 47 = χ0 47 ∧ χ' 61 < 200 := by
  intro d
  induction d with
  | zero =>
    intro l K K' χ σ τ R hl hK hK' l2 e t hR x1 x2 x3
    obtain ⟨K, rfl⟩ : ∃ J, K = J + 1 := ⟨K - 1, by omega⟩
    obtain ⟨K', rfl⟩ : ∃ J, K' = J + 1 := ⟨K' - 1, by omega⟩
    have g : (8 : Int32) < nI l := by
      rw [show l = 9 by omega]
      decide
    refine ⟨-1, χ, σ, τ, R, ?_, ?_, e, t, hR, x1, x2, x3⟩
    · simp only [X7_least_L32, X7_least_B32]
      rw [if_pos g]
    · simp only [X8_least_L51, X8_least_B51, X8_least_J90]
      rw [if_pos g]
  | succ d ih =>
    intro l K K' χ σ τ R hl hK hK' l2 e t hR x1 x2 x3
    obtain ⟨K, rfl⟩ : ∃ J, K = J + 1 := ⟨K - 1, by omega⟩
    obtain ⟨K', rfl⟩ : ∃ J, K' = J + 1 := ⟨K' - 1, by omega⟩
    have g : ¬ (8 : Int32) < nI l := fun q => by
      have := (nI_ltN (a := 8) (by omega) (by omega)).mp q
      omega
    have N4 : N ≤ 40 := h1.1.1
    obtain ⟨R0, hR0⟩ : ∃ R0, R0 = sC R 0 (am_u (R 0) 3 (nI l)) := ⟨_, rfl⟩
    obtain ⟨q1, q2, q3, q4, q5, q6⟩ := hR
    have r0c : ∀ c, c ≠ 0 → R0 c = R c := fun c q => by rw [hR0, sC_ne q]
    have r0f : ∀ k, k ≠ 3 → R0 0 k = R 0 k := fun k q => by rw [hR0]; exact am_u_ne q
    have okp : okP F (am_sg σ 60) := fun c e1 e2 => by
      have := h1.2.2.1 c e1 e2
      rw [sg_app, if_neg (by omega), if_pos e2] at this ⊢
      rw [e _ (by omega)]
      exact this
    have okr : okR H R0 := fun c e1 e2 => by
      rw [r0c c (by omega), q1 c (by omega) (by omega) (by omega)]
      exact h1.2.2.2.1 c e1 e2
    obtain ⟨P1, P', R1, M, i, cc, w, b, r1, r2, rI, r3, r4, r5, r6, r7, r8, r9, r10⟩ := run_both n hn (τ := am_sg τ 60) (P := am_sg σ 60) (R := R0) (m := l) (room := nI r) (ch := 0) (many := 0) (x := x) (y := y) (okP_scr h1.1 okp okr) (rOut_0 N4 (fun s hs => by rw [r0c 14 (by omega), q1 14 (by omega) (by omega) (by omega)]; exact h1.2.2.2.2.2.1 s hs)) l2 (by omega) (by rw [hR0]) (by rw [r0f 4 (by omega)]; exact q4) h1.2.2.2.2.2.2.2.2.2.2.2.2.1 h1.2.2.2.2.2.2.2.2.2.2.2.2.2.1 (by rw [r0f 5 (by omega), q2 5 (by omega) (by omega) (by omega) (by omega)]; exact h1.2.2.2.2.2.2.2.2.2.2.2.2.2.2.2.1) (by rw [r0f 6 (by omega), q2 6 (by omega) (by omega) (by omega) (by omega)]; exact h1.2.2.2.2.2.2.2.2.2.2.2.2.2.2.2.2.2.1) (by omega) (fun j hj => by omega)
    obtain ⟨-, iQ, -, -, iM, -⟩ := rI
    have lI' : lI ρ R1 r := ⟨fun c e1 e2 e3 => by rw [r8 c e1 e2 e3, r0c c (by omega)]; exact q1 c e1 e2 e3, fun k e1 e2 e3 e4 => by rw [r9 k e4, r0f k e2]; exact q2 k e1 e2 e3 e4, by rw [r9 2 (by omega), r0f 2 (by omega)]; exact q3, by rw [r9 4 (by omega), r0f 4 (by omega)]; exact q4, r10, M, Nat.le_trans iM (ph_320 N4 (by omega) iQ.1), iQ.2.1.2.2.1⟩
    have eσ : ∀ k, k < 60 → (am_pg σ 60 2 P') k = σ0 k := fun k hk => by
      rw [pg_app]
      by_cases z1 : k < 18
      · rw [if_pos z1, e k hk]
      · rw [if_neg z1]
        by_cases z2 : k < 26
        · rw [if_pos z2, r7 (k - 6) (by omega) (by omega), sg_app, if_neg (by omega), if_pos (by omega), show k - 6 + 6 = k by omega, e k hk]
        · rw [if_neg z2, if_pos hk, e k hk]
    have eτ : ∀ k, k < 60 → (am_pg τ 60 2 (tR (am_sg τ 60) 0)) k = τ0 k := fun k hk => by
      rw [pg_app]
      by_cases z1 : k < 18
      · rw [if_pos z1, t k hk]
      · rw [if_neg z1]
        by_cases z2 : k < 26
        · unfold tR
          rw [if_pos z2, upd64_app, if_neg (by omega), upd64_app, if_neg (by omega), sg_app, if_neg (by omega), if_pos (by omega), show k - 6 + 6 = k by omega, t k hk]
        · rw [if_neg z2, if_pos hk, t k hk]
    have σ4 : σ 0 4 = nI x := by rw [e 0 (by omega)]; exact h1.2.2.2.2.2.2.2.2.2.2.2.2.2.2.1
    have σ5 : σ 0 5 = nI y := by rw [e 0 (by omega)]; exact h1.2.2.2.2.2.2.2.2.2.2.2.2.2.2.2.2.1
    rw [nI_0] at r1 r2
    simp only [X7_least_L32, X7_least_B32, X8_least_L51, X8_least_B51, X8_least_J84]
    rw [if_neg g, if_neg g, σ4, σ5, r1, ← hR0, r2]
    dsimp only [Option.bind]
    by_cases v2 : b = 2
    · obtain ⟨K'', rfl⟩ : ∃ J, K' = J + 1 := ⟨K' - 1, by omega⟩
      refine ⟨nI l, _, _, _, R1, by rw [if_pos v2], ?_, eσ, eτ, lI', ?_, ?_, ?_⟩
      · rw [if_pos v2, nI_1]
        exact least_end (pu_ne1 (by omega))
      · exact x1
      · exact x2
      · show (18 : Nat) < 200
        omega
    · obtain ⟨b', χ', σ', τ', R', i1, i2, i3⟩ := ih (l + 1) K K' (updN χ 61 18) _ _ R1 (by omega) (by omega) (by omega) (by omega) eσ eτ lI' x1 x2 (by show (18 : Nat) < 200; omega)
      refine ⟨b', χ', σ', τ', R', ?_, ?_, i3⟩
      · rw [if_neg v2, nI_1]
        exact i1
      · rw [if_neg v2, nI_1]
        exact i2
theorem case18 (hn : 2200 < n) (hL : k + 5 < L) (hL2 : L ≤ 3072) (hk : KT n c kont (nI k)) (h : hRel n c χ σ τ ρ) : L_c18 n L xs kont χ σ τ o ρ (nI k) = some true := by
  have hr0 := hRel_ref (rSame_2 (a := 0) (hRel_now h)) h
  have hr1 := hRel_ref (rSame_2 (a := 1) (hRel_now h)) h
  have hch := hRel_ch h
  have now := hRel_now h
  have h' := h
  obtain ⟨F, H, N, m, x, y, v, tv, kd, nx, ot, G, D, h1, h2, h3, h4, h5, h6⟩ := h'
  obtain ⟨s1, s2, s3, s4⟩ := scr_at h1
  have ha := any_eq (n := n) (ρ := sC ρ 0 (am_u (ρ 0) 2 0)) hn s1 s3 (fun s hs => ⟨(s4 s hs).1, (s4 s hs).2.2⟩)
  have a5 : σ 18 8 = nI (anyN kd N) := h1.2.2.2.2.1
  unfold L_c18
  rw [nI_1, if_neg (pu_g (n := L) (by omega) (by omega))]
  generalize xs (nI (k + 1)).toNatClampNeg = a1
  refine ans hk ?_
  have fl : (X8_fail (sC ρ 0 (am_u (ρ 0) 2 0)) 1).bind (fun q4 => some (q4.1, q4.2)) = some ((0 : Int32), sC ρ 0 (am_u (ρ 0) 2 1)) := by
    unfold X8_fail
    dsimp only [Option.bind]
    rw [code_21]
  unfold X7_least X8_least X7_isNoRoom
  rw [isIn_eq, fl, ha]
  dsimp only [Option.bind]
  by_cases w1 : a1 < 0
  · rw [if_pos w1, if_pos rfl, if_neg (by rw [decide_eq_true_eq]; exact fun q => Int32.not_le.mpr w1 q.1)]
    exact ⟨_, _, _, _, _, _, rfl, rfl, hch, hr1, Or.inr ⟨rfl, rfl⟩⟩
  · rw [if_neg w1]
    by_cases w2 : a1 ≤ 3
    · rw [if_pos w2, if_neg Bool.false_ne_true, if_pos (decide_eq_true ⟨Int32.not_lt.mp w1, w2⟩), a5]
      by_cases w3 : nI (anyN kd N) ≤ 0
      · rw [if_pos w3, if_pos w3]
        obtain ⟨r, hr, rfl⟩ := nI_of w1
        obtain ⟨b, χ', σ', τ', R', i1, i2, i3, i4, ⟨q1, q2, q3, q4, q5, q6⟩, i6, i7, i8⟩ := least_run hn (ρ := ρ) (r := r) (χ0 := χ) (τ0 := τ) h1 7 2 n n χ σ τ (sC ρ 0 (am_u (am_u (ρ 0) 2 0) 4 (nI r))) (by omega) (by omega) (by omega) (by omega) (fun _ _ => rfl) (fun _ _ => rfl) ⟨fun c e1 e2 e3 => sC_ne (by omega), fun k e1 e2 e3 e4 => by
          show am_u (am_u (ρ 0) 2 0) 4 (nI r) k = _
          rw [am_u_ne e3, am_u_ne e1], rfl, rfl, h1.2.2.2.2.2.2.2.2.2.2.2.2.2.2.2.2.2.2.2.2.1, now⟩ rfl rfl h6.2.2
        refine ⟨_, _, _, _, _, _, i1, i2, hCh_b ⟨by rw [i6]; exact h6.1, by rw [i7]; exact h6.2.1, i8⟩, ?_, Or.inl ⟨_, rfl, q3, rfl⟩⟩
        obtain ⟨ρ', hρ'⟩ : ∃ ρ', ρ' = sC R' 0 (am_u (am_u (R' 0) 3 (ρ 0 3)) 4 (ρ 0 4)) := ⟨_, rfl⟩
        rw [← hρ']
        have f' : ∀ k, k ≠ 3 → k ≠ 4 → ρ' 0 k = R' 0 k := fun k e1 e2 => by
          rw [hρ']
          show am_u (am_u (R' 0) 3 (ρ 0 3)) 4 (ρ 0 4) k = _
          rw [am_u_ne e2, am_u_ne e1]
        have rs : rSame ρ (sC ρ' 29 (ρ 29)) := by
          refine ⟨fun c e1 e2 => ?_, fun z e1 e2 => ?_, ?_⟩
          · by_cases z : c = 29
            · rw [z]
            · rw [sC_ne z, hρ', sC_ne (by omega)]
              exact q1 c e1 (by omega) z
          · show ρ' 0 z = ρ 0 z
            by_cases z3 : z = 3
            · rw [z3, hρ']
            · by_cases z4 : z = 4
              · rw [z4, hρ']
              · rw [f' z z3 z4]
                by_cases z5 : z = 35
                · rw [z5, q5]
                  exact h1.2.2.2.2.2.2.2.2.2.2.2.2.2.2.2.2.2.2.2.2.1.symm
                · exact q2 z e1 z3 z4 (by omega)
          · show ∃ M', M' ≤ 320 ∧ ρ' 15 64 = nI M'
            rw [hρ', sC_ne (by omega)]
            exact q6
        exact hRel_29 (ρ := sC ρ' 29 (ρ 29)) (fun c z => (sC_ne z).symm) (hRel_s i3 i4 i6 i7 i8 (hRel_ref rs h))
      · rw [if_neg w3, if_neg w3]
        exact ⟨_, _, _, _, _, _, rfl, rfl, hch, hr0, Or.inl ⟨_, rfl, rfl, rfl⟩⟩
    · rw [if_neg w2, if_pos rfl, if_neg (by rw [decide_eq_true_eq]; exact fun q => w2 q.2)]
      exact ⟨_, _, _, _, _, _, rfl, rfl, hch, hr1, Or.inr ⟨rfl, rfl⟩⟩
end LEAST
