/-! EXPLORING from the first STATE on -/
theorem upd64_app (f : Nat → Int64) (c : Nat) (v : Int64) (k : Nat) : upd64 f c v k = if k = c then v else f k := by
  unfold upd64
  by_cases h : k = c
  · rw [if_pos h, show Nat.beq k c = true from Nat.beq_eq.mpr h]
  · rw [if_neg h, show Nat.beq k c = false from Bool.eq_false_iff.mpr (fun q => h (Nat.beq_eq.mp q))]
theorem rOut_t {τ τ' : Nat → Int64} {σ σ' : am_M} {N : Nat} {kd : Nat → Nat} (ht : τ' 0 = τ 0) (h14 : σ' 14 = σ 14) (h : rOut τ σ N kd) : rOut τ' σ' N kd := by
  have e : ∀ (S : am_M) (x : Int32), X2_isLeftOut S τ' x = X2_isLeftOut S τ x := fun S x => by
    unfold X2_isLeftOut
    rw [ht]
  intro s hs
  rw [h14]
  rcases h s hs with ⟨h1, h2⟩ | ⟨h1, h2, h3⟩
  · exact Or.inl ⟨h1, fun S => by rw [e]; exact h2 S⟩
  · exact Or.inr ⟨h1, h2, fun S => by rw [e]; exact h3 S⟩
theorem cntF_zero {T : Nat → Int32} : ∀ k, (∀ p, p < k → T p = 0) → cntF T k = 0 := by
  intro k
  induction k with
  | zero => intro _; rfl
  | succ k ih =>
    intro h
    show cntF T k + _ = 0
    rw [ih (fun p hp => h p (by omega)), if_pos (h k (by omega))]
theorem jfill_in {n j : Nat} {f : Nat → Int32} {v : Int32} (h : j < n) : jfill n f v j = v := if_pos h
theorem go_zero (n : Nat) {σ : am_M} : ∀ (d i K : Nat) (g : Nat → Int32), i + d = 320 → d < K → (∀ j, j < i → g j = 0) → ∃ g', X8_go_L17 n K (sC σ 24 g) (nI i) = (X8_begin n (sC σ 24 g')).bind (fun q2 => (X8_keep n q2).bind (fun q3 => X8_go_L47 n n q3 0)) ∧ ∀ j, j < 320 → g' j = 0 := by
  intro d
  induction d with
  | zero =>
    intro i K g hi hK hg
    obtain ⟨K, rfl⟩ : ∃ J, K = J + 1 := ⟨K - 1, by omega⟩
    have e : i = 320 := by omega
    subst e
    refine ⟨g, ?_, hg⟩
    simp only [X8_go_L17, X8_go_B17]
    rw [if_pos (show (320 : Int32) ≤ nI 320 from Int32.le_refl _)]
  | succ d ih =>
    intro i K g hi hK hg
    obtain ⟨K, rfl⟩ : ∃ J, K = J + 1 := ⟨K - 1, by omega⟩
    simp only [X8_go_L17, X8_go_B17]
    rw [if_neg (show ¬ (320 : Int32) ≤ nI i by rw [show (320 : Int32) = nI 320 from rfl, pu_le (by omega) (by omega)]; omega), if_neg (pu_g (n := 320) (by omega) (by omega)), nI_clamp (by omega), nI_1, sC_sC]
    refine ih (i + 1) K (upd (sC σ 24 g 24) i 0) (by omega) (by omega) (fun j hj => ?_)
    by_cases e : j = i
    · subst e; exact upd_eq
    · rw [upd_ne e]; exact hg j (by omega)
def tX (τ : Nat → Int64) (out : Int64) : Nat → Int64 := upd64 (upd64 τ 0 out) 1 out
theorem expl_both (n : Nat) (hn : 2200 < n) {τ : Nat → Int64} {P R : am_M} {N m : Nat} {kd nx ot : Nat → Nat} {G : Nat → Nat → List Int32} {room : Int32} {out : Int64} (hs : rScr n (am_sub P 1) R N kd nx ot G) (ho : rOut (fun _ => out) R N kd) (m2 : 2 ≤ m) (m8 : m ≤ 8) (h3 : R 0 3 = nI m) (h4 : R 0 4 = room) :
    ∃ P' R' Sf σf Mf s, X4_explore_J34 n P τ (nI m) room out = some (P', tX τ out, 12) ∧ X8_go n R = some (decide (R' 0 48 = 0), R') ∧ xI n (tX τ out) P' R' N m kd nx ot G Sf σf Mf s ∧ (R' 0 48 = 0 → eI P' R' m Sf Mf s) ∧ P' 0 12 = 1 ∧ P' 0 13 = nI m ∧ P' 0 14 = room ∧ (∀ c, 12 ≤ c → c < 20 → P' c = P c) ∧ (∀ c, 1 ≤ c → c < 15 ∨ 24 < c → R' c = R c) ∧ (∀ k, (k < 40 ∧ k ≠ 35) ∨ (42 < k ∧ k ≠ 46 ∧ k ≠ 48) → R' 0 k = R 0 k) ∧ R' 0 35 = -1 := by
  have hN4 := hs.1
  obtain ⟨Rg, hRg⟩ : ∃ Rg, Rg = sC R 0 (am_u (am_u (am_u (R 0) 35 (-1)) 46 0) 48 0) := ⟨_, rfl⟩
  obtain ⟨g', z1, z2⟩ := go_zero n (σ := Rg) 320 0 n (Rg 24) (by omega) (by omega) (fun j hj => by omega)
  rw [sC_self, nI_0] at z1
  obtain ⟨R0, hR0⟩ : ∃ R0, R0 = sC Rg 24 g' := ⟨_, rfl⟩
  rw [← hR0] at z1
  have r0 : ∀ c, c ≠ 0 → c ≠ 24 → R0 c = R c := fun c q1 q2 => by rw [hR0, sC_ne q2, hRg, sC_ne q1]
  have r00 : ∀ k, k ≠ 35 → k ≠ 46 → k ≠ 48 → R0 0 k = R 0 k := fun k q1 q2 q3 => by
    rw [hR0, hRg]
    show am_u (am_u (am_u (R 0) 35 (-1)) 46 0) 48 0 k = _
    rw [am_u_ne q3, am_u_ne q2, am_u_ne q1]
  have r35 : R0 0 35 = -1 := by rw [hR0, hRg]
  have r46 : R0 0 46 = 0 := by rw [hR0, hRg]
  have r48 : R0 0 48 = 0 := by rw [hR0, hRg]
  have r24 : R0 24 = g' := by rw [hR0]
  obtain ⟨P0, hP0⟩ : ∃ P0, P0 = sC (sC (sC (sC P 0 (am_u (am_u (am_u (am_u (am_u (am_u (P 0) 9 0) 10 0) 11 0) 12 1) 13 (nI m)) 14 room)) 22 (jput 201 (P 22) 0 0)) 24 (jfill 512 (P 24) 0)) 27 (jfill 320 (P 27) 0) := ⟨_, rfl⟩
  have p0 : ∀ c, c ≠ 0 → c ≠ 22 → c ≠ 24 → c ≠ 27 → P0 c = P c := fun c q1 q2 q3 q4 => by rw [hP0, sC_ne q4, sC_ne q3, sC_ne q2, sC_ne q1]
  have p9 : P0 0 9 = 0 := by rw [hP0]
  have p10 : P0 0 10 = 0 := by rw [hP0]
  have p11 : P0 0 11 = 0 := by rw [hP0]
  have p12 : P0 0 12 = 1 := by rw [hP0]
  have p13 : P0 0 13 = nI m := by rw [hP0]
  have p14 : P0 0 14 = room := by rw [hP0]
  have p22 : P0 22 0 = 0 := by
    rw [hP0]
    show jput 201 (P 22) (nI 0) 0 0 = 0
    rw [jput_nI (by omega) (by omega), upd_eq]
  have p24 : P0 24 = jfill 512 (P 24) 0 := by rw [hP0]
  have p27 : P0 27 = jfill 320 (P 27) 0 := by rw [hP0]
  obtain ⟨S', σ', b1, b2, b3, b4, b5, b6, b7, b8, b9, b10, b11, b12, b13, b14, b15, b16⟩ := begin_both n hn (τ := am_sub (upd64 τ 0 out) 1) (S := am_sub P0 1) (σ := R0) (room := room) (near := 0) (wide := 0) (out := out) (rScr_congr (S := am_sub P 1) (σ := R) (fun c q1 q2 => p0 (1 + c) (by omega) (by omega) (by omega) (by omega)) (fun c q1 q2 => r0 c (by omega) (by omega)) hs) (rOut_t (τ := fun _ => out) (σ := R) rfl (r0 14 (by omega) (by omega)) ho) m2 m8 ((r00 3 (by omega) (by omega) (by omega)).trans h3) ((r00 4 (by omega) (by omega) (by omega)).trans h4)
  obtain ⟨Q, hQ⟩ : ∃ Q, Q = am_put P0 1 19 S' := ⟨_, rfl⟩
  have Qs : ∀ c, c < 19 → Q (1 + c) = S' c := fun c hc => by
    rw [hQ, am_put_in (by omega) (by omega), show 1 + c - 1 = c by omega]
  have Qo : ∀ c, c < 1 ∨ 20 ≤ c → Q c = P0 c := fun c hc => by rw [hQ, am_put_ne (by omega)]
  have QS : am_sub Q 1 = S' := by rw [hQ]; exact sub_put (fun c hc => b8 c (by omega))
  have Q1 : Q 1 = S' 0 := Qs 0 (by omega)
  have hI0 : spI n Q σ' N m kd G (fun _ => S') (fun _ => σ') (fun _ => 0) 0 := by
    refine ⟨by omega, by rw [Qo 0 (by omega), p9]; rfl, by rw [b9 0 (by omega) (by omega), r46]; rfl, by rw [Qo 0 (by omega), p13], fun i hi => ?_, fun i hi => by omega, fun p hp => Or.inl ?_, ?_, fun i hi => by omega, fun i hi => by omega⟩
    · have : i = 0 := by omega
      subst this
      rw [Qo 22 (by omega), p22]; rfl
    · rw [Qo 24 (by omega), p24]; exact jfill_in hp
    · rw [cntF_zero 512 (fun p hp => by rw [Qo 24 (by omega), p24]; exact jfill_in hp)]
      exact Nat.le_refl _
  obtain ⟨q2, R2, Sf, σf, Mf, s, k1, k2, k3, k4, k5, k6, k7, k8, k9, k10⟩ := keep_both n hn (M := 0) m8 hN4 hI0 (by rw [QS]; exact b4) b6 (Nat.zero_le _) (Nat.zero_le _)
  have hτ : am_put (upd64 τ 0 out) 1 19 (upd64 (am_sub (upd64 τ 0 out) 1) 0 out) = tX τ out := by
    funext k
    unfold tX
    rw [upd64_app]
    by_cases q : k = 1
    · subst q
      rw [am_put_in (by omega) (by omega), upd64_app, if_pos rfl, if_pos rfl]
    · rw [if_neg q]
      by_cases q2 : 1 ≤ k ∧ k < 20
      · rw [am_put_in q2.1 (by omega), upd64_app, if_neg (by omega)]
        show upd64 τ 0 out (1 + (k - 1)) = _
        rw [show 1 + (k - 1) = k by omega]
      · rw [am_put_ne (by omega)]
  have hτ1 : am_sub (tX τ out) 1 = upd64 (am_sub (upd64 τ 0 out) 1) 0 out := by
    rw [← hτ]
    exact sub_put (fun c hc => by rw [upd64_app, if_neg (by omega)])
  have c2 : ∀ c, c ≠ 0 → c < 20 ∨ 24 < c → q2 c = Q c := k6
  have hX : xI n (tX τ out) q2 R2 N m kd nx ot G Sf σf Mf s := by
    refine ⟨k3, ?_, ?_, ⟨0, by omega, ?_⟩, ?_, fun x hx => ?_, ?_⟩
    · rw [hτ1]
      exact rB_congr (S := S') (σ := σ') (fun c q1 q2 => (c2 (1 + c) (by omega) (by omega)).trans (Qs c (by omega))) (congrFun ((c2 1 (by omega) (by omega)).trans Q1) 1) (congrFun ((c2 1 (by omega) (by omega)).trans Q1) 2) (fun c q1 q2 => k8 c (by omega) (by omega) (by omega)) (k9 3 (by omega) (by omega)) (k9 4 (by omega) (by omega)) b3
    · rw [c2 1 (by omega) (by omega), Q1]; exact b5
    · rw [k8 15 (by omega) (by omega) (by omega)]; exact b4.2.1.2.2.1
    · rw [k9 35 (by omega) (by omega), b9 0 (by omega) (by omega), r35]
    · rw [c2 27 (by omega) (by omega), Qo 27 (by omega), p27, k8 24 (by omega) (by omega) (by omega), b9 24 (by omega) (by omega), r24, z2 x hx]
      exact jfill_in hx
    · rcases k10 with ⟨y1, y2⟩ | y
      · rw [y1, y2, Qo 0 (by omega), p11, b9 0 (by omega) (by omega), r48]
        exact Or.inl ⟨rfl, rfl⟩
      · exact Or.inr y
  have hE : eI q2 R2 m Sf Mf 0 := by
    refine ⟨fun j hj => by omega, ?_, fun e he => absurd he (Nat.not_lt_zero _)⟩
    rw [k7 10 (by omega) (by omega), Qo 0 (by omega), p10]
    rfl
  obtain ⟨P', R', Sg, σg, Mg, sg, x1, x2, x3, x4, x5, x6, x7, x8⟩ := expl_loop n hn 200 0 n n q2 R2 Sf σf Mf s (by omega) (by omega) (by omega) hX hE (Nat.zero_le _)
  rw [nI_0] at x1 x2
  refine ⟨P', R', Sg, σg, Mg, sg, ?_, ?_, x3, x4, ?_, ?_, ?_, fun c q1 q2 => ?_, fun c q1 q2 => ?_, fun k q => ?_, ?_⟩
  · unfold X4_explore_J34
    rw [← hP0, b1]
    dsimp only [Option.bind]
    rw [← hQ, k1]
    dsimp only
    rw [hτ, x1]
  · unfold X8_go
    rw [← hRg, z1, b2]
    dsimp only [Option.bind]
    rw [k2]
    dsimp only
    exact x2
  · rw [x6 12 (by omega), k7 12 (by omega) (by omega), Qo 0 (by omega), p12]
  · rw [x6 13 (by omega), k7 13 (by omega) (by omega), Qo 0 (by omega), p13]
  · rw [x6 14 (by omega), k7 14 (by omega) (by omega), Qo 0 (by omega), p14]
  · rw [x5 c q1 q2, c2 c (by omega) (by omega), show c = 1 + (c - 1) by omega, Qs (c - 1) (by omega), b8 (c - 1) (by omega)]
    exact p0 (1 + (c - 1)) (by omega) (by omega) (by omega) (by omega)
  · rw [x7 c q1 q2, k8 c (by omega) (by omega) (by omega), b9 c (by omega) (by omega), r0 c (by omega) (by omega)]
  · rw [x8 k (by omega), k9 k (by omega) (by omega), b9 0 (by omega) (by omega), r00 k (by omega) (by omega) (by omega)]
  · rw [x8 35 (by omega), k9 35 (by omega) (by omega), b9 0 (by omega) (by omega), r35]
