/-! WHAT EXPLORING TELLS: alike in both, whatever stood there before -/
def VT : Type := Int32 × Int32 × (Nat → Int32) × Nat × (Nat → Nat → Int32)
def vC (P : am_M) (m : Nat) (v : VT) : Prop := P 0 11 = v.1 ∧ (v.1 = 0 ∨ v.1 = 1) ∧ P 0 9 = v.2.1 ∧ (∀ x, x < 320 → P 27 x = v.2.2.1 x) ∧ P 0 13 = nI m ∧ (v.1 = 0 → P 0 10 = nI v.2.2.2.1 ∧ v.2.2.2.1 ≤ 200 ∧ (∀ e, e < v.2.2.2.1 → ∃ (i M : Nat) (S : am_M), i < 200 ∧ P 26 e = nI i ∧ eRow P m i M S ∧ ∀ c, c < 11 → v.2.2.2.2 e c = shw S m M c) ∧ ∀ e e', e < e' → e' < v.2.2.2.1 → lx (v.2.2.2.2 e) (v.2.2.2.2 e') 0 11 = -1)
def vG (n : Nat) (R : am_M) (v : VT) : Prop := R 0 48 = v.1 ∧ (v.1 = 0 → ∃ b g, X8_someLocks n R = some (b, sC R 15 g) ∧ (b = true ↔ ∃ e, e < v.2.2.2.1 ∧ v.2.2.2.2 e 0 = 2) ∧ ∃ M', M' ≤ 320 ∧ g 64 = nI M')
def vT (R : am_M) (v : VT) : Prop := R 0 52 = v.1 ∧ R 0 53 = v.2.1 ∧ (∀ x, x < 320 → R 26 x = v.2.2.1 x) ∧ (v.1 = 0 → R 0 51 = nI v.2.2.2.1 ∧ v.2.2.2.1 ≤ 200 ∧ ∀ e, e < v.2.2.2.1 → ∀ c, c < 11 → R 25 (11 * e + c) = v.2.2.2.2 e c)
/-- tell two alike -/
def vE (v w : VT) : Prop := v.1 = w.1 ∧ v.2.1 = w.2.1 ∧ (∀ x, x < 320 → v.2.2.1 x = w.2.2.1 x) ∧ (v.1 = 0 → v.2.2.2.1 = w.2.2.2.1 ∧ ∀ e, e < v.2.2.2.1 → ∀ c, c < 11 → v.2.2.2.2 e c = w.2.2.2.2 e c)
theorem vT_E {R : am_M} {v w : VT} (h : vT R v) (k : vT R w) : vE v w := by
  obtain ⟨a1, a2, a3, a4⟩ := h
  obtain ⟨b1, b2, b3, b4⟩ := k
  refine ⟨a1.symm.trans b1, a2.symm.trans b2, fun x hx => (a3 x hx).symm.trans (b3 x hx), fun q => ?_⟩
  obtain ⟨c1, c2, c3⟩ := a4 q
  obtain ⟨d1, d2, d3⟩ := b4 (by rw [← b1, a1]; exact q)
  have e : v.2.2.2.1 = w.2.2.2.1 := by
    rw [c1] at d1
    exact (nI_eq (by omega) (by omega)).mp d1
  exact ⟨e, fun x hx c hc => (c3 x hx c hc).symm.trans (d3 x (by omega) c hc)⟩
theorem vC_E {P : am_M} {m : Nat} {v w : VT} (h : vC P m v) (k : vC P m w) : vE v w := by
  obtain ⟨a1, -, a2, a3, a5, a4⟩ := h
  obtain ⟨b1, -, b2, b3, b5, b4⟩ := k
  refine ⟨a1.symm.trans b1, a2.symm.trans b2, fun x hx => (a3 x hx).symm.trans (b3 x hx), fun q => ?_⟩
  obtain ⟨c1, c2, c3, c4⟩ := a4 q
  obtain ⟨d1, d2, d3, d4⟩ := b4 (by rw [← b1, a1]; exact q)
  have e : v.2.2.2.1 = w.2.2.2.1 := by
    rw [c1] at d1
    exact (nI_eq (by omega) (by omega)).mp d1
  refine ⟨e, fun x hx c hc => ?_⟩
  obtain ⟨i, M, S, x1, x2, x3, x4⟩ := c3 x hx
  obtain ⟨i', M', S', y1, y2, y3, y4⟩ := d3 x (by omega)
  have ei : i' = i := by
    rw [x2] at y2
    exact ((nI_eq (by omega) (by omega)).mp y2).symm
  subst ei
  obtain ⟨r1, ⟨p, r2, r3⟩, r4⟩ := x3
  obtain ⟨t1, ⟨p', t2, t3⟩, t4⟩ := y3
  rw [x4 c hc, y4 c hc]
  unfold shw
  have rows : ∀ k, k < 13 * m → S' 1 k = S 1 k := fun k hk => (t1 k hk).symm.trans (r1 k hk)
  have hM : nI M = nI M' := by
    have h1 : X4_wordsOf P (nI i') = nI M := wordsP_eq x1 ⟨r1, ⟨p, r2, r3⟩, r4⟩
    have h2 : X4_wordsOf P (nI i') = nI M' := wordsP_eq x1 ⟨t1, ⟨p', t2, t3⟩, t4⟩
    rw [← h1, h2]
  rw [knd_congr rows, hM, ubn_congr m (fun j hj => rows _ (by omega))]
  split
  · rfl
  · split
    · split
      · rw [rows _ (by omega)]
      · rfl
    · rfl
theorem vE_s {v w : VT} (h : vE v w) : vE w v := by
  obtain ⟨a1, a2, a3, a4⟩ := h
  refine ⟨a1.symm, a2.symm, fun x hx => (a3 x hx).symm, fun q => ?_⟩
  obtain ⟨b1, b2⟩ := a4 (a1.trans q)
  exact ⟨b1.symm, fun e he c hc => (b2 e (by omega) c hc).symm⟩
theorem vC_t {P : am_M} {m : Nat} {v w : VT} (e : vE v w) (h : vC P m v) : vC P m w := by
  obtain ⟨e1, e2, e3, e4⟩ := e
  obtain ⟨a1, a0, a2, a3, a5, a4⟩ := h
  refine ⟨a1.trans e1, by rw [← e1]; exact a0, a2.trans e2, fun x hx => (a3 x hx).trans (e3 x hx), a5, fun q => ?_⟩
  obtain ⟨f1, f2⟩ := e4 (e1.trans q)
  obtain ⟨c1, c2, c3, c4⟩ := a4 (e1.trans q)
  refine ⟨by rw [← f1]; exact c1, by omega, fun x hx => ?_, fun x y h1 h2 => ?_⟩
  · obtain ⟨i, M, S, x1, x2, x3, x4⟩ := c3 x (by omega)
    exact ⟨i, M, S, x1, x2, x3, fun c hc => (f2 x (by omega) c hc).symm.trans (x4 c hc)⟩
  · rw [← c4 x y h1 (by omega)]
    exact lx_congr 11 0 (fun c _ hc => ⟨(f2 x (by omega) c (by omega)).symm, (f2 y (by omega) c (by omega)).symm⟩)
theorem vG_t {n : Nat} {R : am_M} {v w : VT} (e : vE v w) (h : vG n R v) : vG n R w := by
  obtain ⟨e1, e2, e3, e4⟩ := e
  obtain ⟨a1, a2⟩ := h
  refine ⟨a1.trans e1, fun q => ?_⟩
  obtain ⟨f1, f2⟩ := e4 (e1.trans q)
  obtain ⟨b, g, b1, b2, b3⟩ := a2 (e1.trans q)
  refine ⟨b, g, b1, b2.trans ⟨fun ⟨x, y1, y2⟩ => ⟨x, by omega, by rw [← f2 x y1 0 (by omega)]; exact y2⟩, fun ⟨x, y1, y2⟩ => ⟨x, by omega, by rw [f2 x (by omega) 0 (by omega)]; exact y2⟩⟩, b3⟩
theorem vT_t {R : am_M} {v w : VT} (e : vE v w) (h : vT R v) : vT R w := by
  obtain ⟨e1, e2, e3, e4⟩ := e
  obtain ⟨a1, a2, a3, a4⟩ := h
  refine ⟨a1.trans e1, a2.trans e2, fun x hx => (a3 x hx).trans (e3 x hx), fun q => ?_⟩
  obtain ⟨f1, f2⟩ := e4 (e1.trans q)
  obtain ⟨c1, c2, c3⟩ := a4 (e1.trans q)
  exact ⟨by rw [← f1]; exact c1, by omega, fun x hx c hc => (c3 x (by omega) c hc).trans (f2 x (by omega) c hc)⟩
/-- the class explored, the reference went and told -/
def xRes (n : Nat) (τ : Nat → Int64) (P R : am_M) (m : Nat) (room : Int32) (out : Int64) (v : VT) : Prop := ∃ P' R' T, X4_explore_J34 n P τ (nI m) room out = some (P', tX τ out, 12) ∧ X8_go n R = some (decide (v.1 = 0), R') ∧ X8_tell_L31 n n (sC R' 0 (am_u (R' 0) 51 0)) 0 = some (decide (v.1 = 0), T) ∧ vC P' m v ∧ vG n R' v ∧ vT T v ∧
  (P' 0 12 = 1 ∧ P' 0 14 = room ∧ ∀ c, 12 ≤ c → c < 20 → P' c = P c) ∧ ((∀ c, 1 ≤ c → c < 15 ∨ 24 < c → R' c = R c) ∧ (∀ k, (k < 40 ∧ k ≠ 35) ∨ (42 < k ∧ k ≠ 46 ∧ k ≠ 48) → R' 0 k = R 0 k) ∧ R' 0 35 = -1 ∧ ∃ M', M' ≤ 320 ∧ R' 15 64 = nI M') ∧ ((∀ c, 1 ≤ c → c < 15 ∨ 26 < c → T c = R c) ∧ (∀ k, (k < 40 ∧ k ≠ 35) ∨ (42 < k ∧ k ≠ 46 ∧ k ≠ 48 ∧ k ≠ 51 ∧ k ≠ 52 ∧ k ≠ 53) → T 0 k = R 0 k) ∧ T 0 35 = -1 ∧ ∃ M', M' ≤ 320 ∧ T 15 64 = nI M')
theorem expl_vis (n : Nat) (hn : 2200 < n) {τ : Nat → Int64} {P R : am_M} {N m : Nat} {kd nx ot : Nat → Nat} {G : Nat → Nat → List Int32} {room : Int32} {out : Int64} (hs : rScr n (am_sub P 1) R N kd nx ot G) (ho : rOut (fun _ => out) R N kd) (m2 : 2 ≤ m) (m8 : m ≤ 8) (h3 : R 0 3 = nI m) (h4 : R 0 4 = room) : ∃ v, xRes n τ P R m room out v := by
  obtain ⟨P', R', Sf, σf, Mf, s, y1, y2, y3, y4, y5, y6, y7, y8, y9, y10, y11⟩ := expl_both n hn (τ := τ) hs ho m2 m8 h3 h4
  obtain ⟨x1, x2, x3, x4, x5, x6, x7⟩ := y3
  have hs200 := x1.1
  have h9 := x1.2.1
  have h46 := x1.2.2.1
  have R3 : R' 0 3 = nI m := x2.2.2.2.2.2.1
  have S := srt_ord (row := rowF Sf m Mf) (isE := isF R') s
  have h48 : R' 0 48 = P' 0 11 := by rcases x7 with ⟨q1, q2⟩ | ⟨q1, q2⟩ <;> rw [q1, q2]
  have h01 : P' 0 11 = 0 ∨ P' 0 11 = 1 := by rcases x7 with ⟨q1, q2⟩ | ⟨q1, q2⟩; exact Or.inl q1; exact Or.inr q1
  obtain ⟨v, hv⟩ : ∃ v : VT, v = (P' 0 11, P' 0 9, P' 27, (ordF (rowF Sf m Mf) (isF R') s).2, fun e => rowF Sf m Mf ((ordF (rowF Sf m Mf) (isF R') s).1 e)) := ⟨_, rfl⟩
  have v1 : v.1 = P' 0 11 := by rw [hv]
  have v2 : v.2.1 = P' 0 9 := by rw [hv]
  have v3 : v.2.2.1 = P' 27 := by rw [hv]
  have v4 : v.2.2.2.1 = (ordF (rowF Sf m Mf) (isF R') s).2 := by rw [hv]
  have v5 : ∀ e, v.2.2.2.2 e = rowF Sf m Mf ((ordF (rowF Sf m Mf) (isF R') s).1 e) := fun e => by rw [hv]
  obtain ⟨S1, S2, S3, S4⟩ := S
  have isE1 : ∀ j, isF R' j = true → R' 23 j = 1 := fun j q => of_decide_eq_true q
  obtain ⟨U, hU⟩ : ∃ U, U = sC R' 0 (am_u (R' 0) 51 0) := ⟨_, rfl⟩
  have uc : ∀ c, c ≠ 0 → U c = R' c := fun c q => by rw [hU, sC_ne q]
  have u0 : ∀ k, k ≠ 51 → U 0 k = R' 0 k := fun k q => by rw [hU]; exact am_u_ne q
  have hT : ∃ T0, X8_tell_L31 n n U 0 = X8_tell_J73 n T0 ∧ (∀ c, c ≠ 0 → c ≠ 15 → c ≠ 25 → T0 c = R' c) ∧ (∀ k, k ≠ 51 → T0 0 k = R' 0 k) ∧ (∃ M', M' ≤ 320 ∧ T0 15 64 = nI M') ∧ (v.1 = 0 → T0 0 51 = nI v.2.2.2.1 ∧ ∀ e, e < v.2.2.2.1 → ∀ c, c < 11 → T0 25 (11 * e + c) = v.2.2.2.2 e c) := by
    rcases x7 with ⟨q1, q2⟩ | ⟨q1, q2⟩
    · have E := y4 q2
      obtain ⟨T0, t1, t2, t3, t4, t5, t6⟩ := tell_loop n hn (m := m) (s := s) (Sf := Sf) (σf := σf) (Mf := Mf) (isE := isF R') m8 hs200 s 0 n U (by omega) (by omega) (by rw [u0 46 (by omega)]; exact h46) (by rw [u0 48 (by omega)]; exact q2) (by rw [u0 3 (by omega)]; exact R3) (sR_congr (uc 21 (by omega)) (sR_sp x1)) (by rw [uc 15 (by omega)]; exact x4) (fun j hj => by
        rw [uc 23 (by omega)]
        rcases E.1 j hj with z | z
        · exact Or.inr ⟨decide_eq_false (by rw [z]; decide), z⟩
        · exact Or.inl ⟨decide_eq_true z.1, z.1⟩) (by rw [hU]; rfl) (fun e he => absurd he (Nat.not_lt_zero _))
      rw [nI_0] at t1
      refine ⟨T0, t1, fun c z1 z2 z3 => (t2 c z1 z2 z3).trans (uc c z1), fun k z => (t3 k z).trans (u0 k z), t4, fun _ => ⟨by rw [v4]; exact t5, fun e he c hc => ?_⟩⟩
      rw [v5]
      exact t6 e (by rw [← v4]; exact he) c hc
    · refine ⟨U, ?_, fun c z1 _ _ => uc c z1, fun k z => u0 k z, by rw [uc 15 (by omega)]; exact x4, fun z => ?_⟩
      · obtain ⟨K, hK⟩ : ∃ K, n = K + 1 := ⟨n - 1, by omega⟩
        have : ∀ K, X8_tell_L31 n (K + 1) U 0 = X8_tell_J73 n U := fun K => by
          simp only [X8_tell_L31, X8_tell_B31]
          rw [if_neg (show ¬ U 0 48 = 0 by rw [u0 48 (by omega), q2]; decide)]
          split <;> rfl
        rw [show X8_tell_L31 n n U 0 = X8_tell_L31 n (K + 1) U 0 by rw [← hK]]
        exact this K
      · rw [v1, q1] at z
        exact absurd z (by decide)
  obtain ⟨T0, t1, t2, t3, t4, t5⟩ := hT
  obtain ⟨T, w1, w2, w3, w4, w5, w6⟩ := tell_j73 n hn (T := T0) (by rw [t3 48 (by omega), h48]; exact h01)
  have T48 : T0 0 48 = v.1 := by rw [t3 48 (by omega), h48, v1]
  refine ⟨v, P', R', T, y1, ?_, ?_, ⟨v1.symm, by rw [v1]; exact h01, v2.symm, fun x hx => by rw [v3], y6, fun q => ?_⟩, ⟨by rw [v1]; exact h48, fun q => ?_⟩, ⟨by rw [w4, T48], ?_, fun x hx => ?_, fun q => ?_⟩, ⟨y5, y7, y8⟩, ⟨y9, y10, y11, x4⟩, ⟨fun c q1 q2 => ?_, fun k q => ?_, ?_, ?_⟩⟩
  · rw [v1, ← h48]; exact y2
  · rw [← hU, t1, w1, T48]
  · rw [v1] at q
    have q2 : R' 0 48 = 0 := by rw [h48]; exact q
    obtain ⟨E1, E2, E3⟩ := y4 q2
    refine ⟨by rw [v4]; exact E2, by rw [v4]; omega, fun e he => ?_, fun e e' z1 z2 => ?_⟩
    · rw [v4] at he
      obtain ⟨z1, z2⟩ := S2 e he
      refine ⟨_, Mf ((ordF (rowF Sf m Mf) (isF R') s).1 e), Sf ((ordF (rowF Sf m Mf) (isF R') s).1 e), by omega, E3 e he, eRow_sp x1 z1 rfl rfl ?_, fun c hc => by rw [v5]; rfl⟩
      rcases E1 _ z1 with z3 | z3
      · have := isE1 _ z2
        rw [z3] at this; exact absurd this (by decide)
      · exact z3.2
    · rw [v4] at z2
      rw [v5, v5]
      exact S3 e e' z1 z2
  · rw [v1] at q
    have q2 : R' 0 48 = 0 := by rw [h48]; exact q
    obtain ⟨E1, E2, E3⟩ := y4 q2
    obtain ⟨b, g, l1, l2, l3⟩ := locks_loop n hn (m := m) (s := s) (Sf := Sf) (σf := σf) (Mf := Mf) m8 hs200 s 0 n R' (by omega) (by omega) h46 R3 (sR_sp x1) x4 (fun j hj => by
      rcases E1 j hj with z | z
      · exact Or.inr z
      · exact Or.inl z.1)
    rw [nI_0] at l1
    refine ⟨b, g, l1, l2.trans ⟨fun ⟨j, z1, z2, z3, z4⟩ => ?_, fun ⟨e, z1, z2⟩ => ?_⟩, l3⟩
    · obtain ⟨e, e1, e2⟩ := S4 j z2 (decide_eq_true z3)
      refine ⟨e, by rw [v4]; exact e1, ?_⟩
      rw [v5, (lx_eq 11 0).mp e2 0 (Nat.le_refl _) (by omega)]
      exact z4
    · rw [v4] at z1
      obtain ⟨u1, u2⟩ := S2 e z1
      refine ⟨_, Nat.zero_le _, u1, isE1 _ u2, ?_⟩
      rw [v5] at z2
      exact z2
  · rw [w5, t3 46 (by omega), h46, v2, h9]
  · rw [w6 x hx, t2 24 (by omega) (by omega) (by omega), v3, x6 x hx]
  · obtain ⟨z1, z2⟩ := t5 q
    refine ⟨by rw [w3 51 (by omega) (by omega)]; exact z1, by rw [v4]; omega, fun e he c hc => ?_⟩
    rw [w2 25 (by omega) (by omega)]
    exact z2 e he c hc
  · rw [w2 c (by omega) (by omega), t2 c (by omega) (by omega) (by omega), y9 c q1 (by omega)]
  · rw [w3 k (by omega) (by omega), t3 k (by omega), y10 k (by omega)]
  · rw [w3 35 (by omega) (by omega), t3 35 (by omega), y11]
  · rw [w2 15 (by omega) (by omega)]; exact t4
