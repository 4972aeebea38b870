/-! THE LAW'S CASES: those that search -/
section FIND
variable {n c L : Nat} {xs : Nat → Int32} {kont : (Nat → Nat) → am_M → (Nat → Int64) → (Nat → Int64) → am_M → Int32 → Option Bool} {χ : Nat → Nat} {σ : am_M} {τ o : Nat → Int64} {ρ : am_M} {k : Nat}
theorem ilo0 (S : am_M) (x : Int32) : X2_isLeftOut S (fun _ => 0) x = false := by
  unfold X2_isLeftOut
  have : (am_lushr (0 : Int64) x) &&& 1 = 0 := by
    unfold am_lushr
    rw [show (0 : Int64).toUInt64 = 0 from rfl, UInt64.zero_shiftRight]
    rfl
  rw [this, if_neg (by decide)]
theorem rOut_0 {N : Nat} {kd : Nat → Nat} {R : am_M} (hN : N ≤ 40) (h : ∀ s, s < 40 → R 14 s = 0) : rOut (fun _ => 0) R N kd := fun s hs => Or.inl ⟨h s (by omega), fun S => ilo0 S _⟩
/-- the class's half -/
def cI (n : Nat) (F H : am_M) (χ : Nat → Nat) (σ : am_M) (τ : Nat → Int64) (ρ : am_M) (N m x y : Nat) (kd nx ot : Nat → Nat) (G : Nat → Nat → List Int32) (D : Nat → Int32 → Int64 → VT) (tv : Nat) : Prop := hS n F H σ ρ N m x y kd nx ot G D ∧ hRd σ τ D ∧ hPl n χ σ ρ m tv ∧ hCh χ
theorem hxs (hn : 2200 < n) {F H R : am_M} {N m x y tv : Nat} {kd nx ot : Nat → Nat} {G : Nat → Nat → List Int32} {D : Nat → Int32 → Int64 → VT} {room : Int32} {out : Int64} (hC : cI n F H χ σ τ ρ N m x y kd nx ot G D tv) (hok : okX n F H N kd (am_sg σ 26) R m room out) :
    ∃ P' τ' j, X4_explore n (am_sg σ 26) (am_sg τ 26) (nI m) room out = some (P', τ', j) ∧ vC P' m (D m room out) ∧ vC (am_sg (am_pg σ 26 8 P') 26) m (D m room out) ∧ cI n F H (updN χ 27 ((am_gj 26 8 (χ 27)).getD j 0)) (am_pg σ 26 8 P') (am_pg τ 26 8 τ') ρ N m x y kd nx ot G D tv ∧ (am_pg σ 26 8 P') 0 = σ 0 ∧ (am_pg τ 26 8 τ') 0 = τ 0 ∧ (am_pg σ 26 8 P') 18 = σ 18 ∧ (am_pg σ 26 8 P') 26 = P' 0 := by
  obtain ⟨hS0, hR0, hP0, hc0⟩ := hC
  have m8 := hok.2.2.2.2.1
  have core : ∃ P' τ' j, X4_explore n (am_sg σ 26) (am_sg τ 26) (nI m) room out = some (P', τ', j) ∧ vC P' m (D m room out) ∧ (j = 12 ∨ j = 28) ∧ P' 0 12 = 1 ∧ P' 0 14 = room ∧ τ' 0 = out ∧ ∀ c, 12 ≤ c → c < 20 → P' c = (am_sg σ 26) c := by
    obtain ⟨P', R', T, y1, -, -, y4, -, -, ⟨y7, y8, y9⟩, -, -⟩ := hS0.2.1.1 (am_sg τ 26) (am_sg σ 26) R m room out hok
    have hj : X4_explore_J34 n (am_sg σ 26) (am_sg τ 26) (nI m) room out = some (P', tX (am_sg τ 26) out, 12) := y1
    have hj0 : tX (am_sg τ 26) out 0 = out := by
      unfold tX
      rw [upd64_app, if_neg (by omega), upd64_app, if_pos rfl]
    have miss : X4_explore n (am_sg σ 26) (am_sg τ 26) (nI m) room out = X4_explore_J34 n (am_sg σ 26) (am_sg τ 26) (nI m) room out → ∃ P' τ' j, X4_explore n (am_sg σ 26) (am_sg τ 26) (nI m) room out = some (P', τ', j) ∧ vC P' m (D m room out) ∧ (j = 12 ∨ j = 28) ∧ P' 0 12 = 1 ∧ P' 0 14 = room ∧ τ' 0 = out ∧ ∀ c, 12 ≤ c → c < 20 → P' c = (am_sg σ 26) c := fun e => ⟨P', tX (am_sg τ 26) out, 12, e.trans hj, y4, Or.inl rfl, y7, y8, hj0, y9⟩
    have e0 : X4_explore n (am_sg σ 26) (am_sg τ 26) (nI m) room out = if σ 26 12 = 0 then X4_explore_J34 n (am_sg σ 26) (am_sg τ 26) (nI m) room out else (if nI m = σ 26 13 then (if room = σ 26 14 then (if lg_cmp out (τ 26) = 0 then some (am_sg σ 26, am_sg τ 26, 28) else X4_explore_J34 n (am_sg σ 26) (am_sg τ 26) (nI m) room out) else X4_explore_J34 n (am_sg σ 26) (am_sg τ 26) (nI m) room out) else X4_explore_J34 n (am_sg σ 26) (am_sg τ 26) (nI m) room out) := rfl
    rcases hR0 with z | ⟨z, m', z1, z2, z3⟩
    · exact miss (by rw [e0, if_pos z])
    · by_cases c1 : nI m = σ 26 13
      · by_cases c2 : room = σ 26 14
        · by_cases c3 : lg_cmp out (τ 26) = 0
          · have em : m = m' := by
              rw [z2] at c1
              exact (nI_eq (by omega) (by omega)).mp c1
            have eo : out = τ 26 := lgz.mp c3
            refine ⟨am_sg σ 26, am_sg τ 26, 28, ?_, ?_, Or.inr rfl, z, c2.symm, eo.symm, fun _ _ _ => rfl⟩
            · rw [e0, if_neg (by rw [z]; decide), if_pos c1, if_pos c2, if_pos c3]
            · rw [em, c2, eo]; exact z3
          · exact miss (by rw [e0, if_neg (by rw [z]; decide), if_pos c1, if_pos c2, if_neg c3])
        · exact miss (by rw [e0, if_neg (by rw [z]; decide), if_pos c1, if_neg c2])
      · exact miss (by rw [e0, if_neg (by rw [z]; decide), if_neg c1])
  obtain ⟨P', τ', j, e1, e2, e3, e4, e5, e6, e7⟩ := core
  have s18 : ∀ x, 18 ≤ x → x < 26 → (am_pg σ 26 8 P') x = σ x := fun x q1 q2 => by
    rw [pg_app, if_neg (by omega), if_pos q2, e7 (x - 6) (by omega) (by omega), sg_app, if_neg (by omega), if_pos (by omega), show x - 6 + 6 = x by omega]
  have sg28 : ∀ x, x < 28 → (am_sg (am_pg σ 26 8 P') 26) x = P' x := fun x hx => by
    rw [sg_app]
    by_cases h1 : x < 12
    · rw [if_pos h1, pg_app, if_neg (by omega), if_neg (by omega), if_neg (by omega), if_pos (by omega), show 26 + x - 26 = x by omega]
    · rw [if_neg h1]
      by_cases h2 : x < 20
      · rw [if_pos h2, pg_app, if_neg (by omega), if_pos (by omega), show x + 6 - 6 = x by omega]
      · rw [if_neg h2, pg_app, if_neg (by omega), if_neg (by omega), if_neg (by omega), if_neg (by omega), if_pos (by omega), show 26 + x - 8 - 26 + 8 = x by omega]
  have lo : ∀ x, x < 18 → (am_pg σ 26 8 P') x = σ x := fun x hx => by rw [pg_app, if_pos hx]
  have hi : ∀ x, 46 ≤ x → (am_pg σ 26 8 P') x = σ x := fun x hx => by rw [pg_app, if_neg (by omega), if_neg (by omega), if_neg (by omega), if_neg (by omega), if_neg (by omega)]
  have p26 : (am_pg σ 26 8 P') 26 = P' 0 := by rw [pg_app, if_neg (by omega), if_neg (by omega), if_neg (by omega), if_pos (by omega)]
  have t26 : (am_pg τ 26 8 τ') 26 = τ' 0 := by rw [pg_app, if_neg (by omega), if_neg (by omega), if_neg (by omega), if_pos (by omega)]
  have hv2 : vC (am_sg (am_pg σ 26 8 P') 26) m (D m room out) := vC_congr (P := P') sg28 e2
  have now := hS0.2.2.2.2.2.2.2.2.2.2.2.2.2.2.2.2.2.2.2.2.2
  have rr : rSm ρ ρ := ⟨fun _ _ _ => rfl, fun _ _ _ => rfl, now⟩
  refine ⟨P', τ', j, e1, e2, hv2, ⟨hS_same (fun x hx => ?_) (fun x _ _ => by rw [lo 0 (by omega)]) rr hS0, Or.inr ⟨by rw [p26]; exact e4, m, m8, by rw [p26]; exact e2.2.2.2.2.1, ?_⟩, hPl_same ?_ (by rw [lo 0 (by omega)]) ?_ rr hP0, ?_⟩, lo 0 (by omega), ?_, s18 18 (by omega) (by omega), p26⟩
  · by_cases q : x < 18
    · exact lo x q
    · exact s18 x (by omega) (by omega)
  · rw [p26, t26, e5, e6]; exact hv2
  · rfl
  · funext x
    rw [sg_app, sg_app]
    by_cases h1 : x < 12
    · rw [if_pos h1, if_pos h1, hi _ (by omega)]
    · rw [if_neg h1, if_neg h1]
      by_cases h2 : x < 20
      · rw [if_pos h2, if_pos h2, s18 _ (by omega) (by omega)]
      · rw [if_neg h2, if_neg h2, hi _ (by omega)]
  · refine ⟨?_, hc0.2.1, hc0.2.2⟩
    show (am_gj 26 8 (χ 27)).getD j 0 < 200
    rcases e3 with rfl | rfl
    · show (18 : Nat) < 200
      omega
    · exact hc0.1
  · rw [pg_app, if_pos (by omega)]
/-- the reference tells -/
theorem tell_ok (hn : 2200 < n) {F H : am_M} {N m x y v tv : Nat} {kd nx ot : Nat → Nat} {G : Nat → Nat → List Int32} {D : Nat → Int32 → Int64 → VT} (h1 : hS n F H σ ρ N m x y kd nx ot G D) (h3 : hTd ρ m v tv c D) : ∃ T, X8_tell n ρ = some (decide ((D m (ρ 0 4) 0).1 = 0), T) ∧ vT T (D m (ρ 0 4) 0) ∧ rSm ρ T ∧ T 0 2 = ρ 0 2 ∧ hTd T m v tv (c + 1) D := by
  have now := h1.2.2.2.2.2.2.2.2.2.2.2.2.2.2.2.2.2.2.2.2.2
  have hN4 : N ≤ 40 := h1.1.1
  obtain ⟨a1, a2, a3, a4, a5, a6⟩ := h3
  by_cases q : ρ 0 47 = ρ 0 7
  · have V := a6 q
    refine ⟨ρ, ?_, V, ⟨fun _ _ _ => rfl, fun _ _ _ => rfl, now⟩, rfl, by omega, a2, by omega, a4, a5, a6⟩
    unfold X8_tell X8_tell_J116
    rw [if_pos q, V.1]
    split
    · rename_i z; rw [decide_eq_true z]
    · rename_i z; rw [decide_eq_false z]
  · obtain ⟨R, hR⟩ : ∃ R, R = sC ρ 0 (am_u (ρ 0) 47 (ρ 0 7)) := ⟨_, rfl⟩
    have rc : ∀ c, c ≠ 0 → R c = ρ c := fun c q => by rw [hR, sC_ne q]
    have r0 : ∀ k, k ≠ 47 → R 0 k = ρ 0 k := fun k q => by rw [hR]; exact am_u_ne q
    have hok : okX n F H N kd (am_sg σ 26) R m (ρ 0 4) 0 := ⟨h1.2.2.1, fun c q1 q2 => by rw [rc c (by omega)]; exact h1.2.2.2.1 c q1 q2, rOut_0 hN4 (fun s hs => by rw [rc 14 (by omega)]; exact h1.2.2.2.2.2.1 s hs), h1.2.2.2.2.2.2.1, h1.2.2.2.2.2.2.2.1, by rw [r0 3 (by omega)]; exact h1.2.2.2.2.2.2.2.2.2.1, r0 4 (by omega)⟩
    obtain ⟨P', R', T, -, y2, y3, -, -, y6, -, -, ⟨y10, y11, y12, y13⟩⟩ := h1.2.1.1 (fun _ => 0) (am_sg σ 26) R m (ρ 0 4) 0 hok
    have t0 : ∀ k, (k < 40 ∧ k ≠ 35) ∨ (42 < k ∧ k ≠ 46 ∧ k ≠ 48 ∧ k ≠ 51 ∧ k ≠ 52 ∧ k ≠ 53 ∧ k ≠ 47) → T 0 k = ρ 0 k := fun k q => by rw [y11 k (by omega), r0 k (by omega)]
    have t47 : T 0 47 = ρ 0 7 := by
      rw [y11 47 (by omega), hR]
    refine ⟨T, ?_, y6, ⟨fun c q1 q2 => by rw [y10 c q1 q2, rc c (by omega)], fun k q1 q2 => ?_, y13⟩, t0 2 (by omega), by omega, by rw [t0 7 (by omega)]; exact a2, by omega, by rw [t0 8 (by omega)]; exact a4, Or.inr ⟨v, Nat.le_refl _, by rw [t47]; exact a2⟩, fun _ => by rw [t0 4 (by omega)]; exact y6⟩
    · unfold X8_tell
      rw [if_neg q, ← hR, y2]
      dsimp only [Option.bind]
      exact y3
    · by_cases z : k = 35
      · rw [z, y12]; exact h1.2.2.2.2.2.2.2.2.2.2.2.2.2.2.2.2.2.2.2.2.1.symm
      · exact t0 k (by omega)
/-- class and reference search, and what they hold then -/
theorem search (hn : 2200 < n) (h : hRel n c χ σ τ ρ) : ∃ (F H : am_M) (N m x y : Nat) (kd nx ot : Nat → Nat) (G : Nat → Nat → List Int32) (D : Nat → Int32 → Int64 → VT) (v : VT) (P' : am_M) (τ' : Nat → Int64) (j : Nat) (T : am_M), hS n F H σ ρ N m x y kd nx ot G D ∧ X4_explore n (am_sg σ 26) (am_sg τ 26) (σ 0 2) (σ 0 3) 0 = some (P', τ', j) ∧ X8_tell n (sC ρ 0 (am_u (ρ 0) 2 0)) = some (decide (v.1 = 0), T) ∧ vC (am_sg (am_pg σ 26 8 P') 26) m v ∧ vT T v ∧ (am_pg σ 26 8 P') 26 11 = v.1 ∧ (am_pg σ 26 8 P') 26 9 = v.2.1 ∧ (v.1 = 0 → (am_pg σ 26 8 P') 26 10 = nI v.2.2.2.1) ∧ T 0 3 = nI m ∧ T 0 2 = 0 ∧ am_chib (updN χ 27 ((am_gj 26 8 (χ 27)).getD j 0)) = true ∧ (∃ M', M' ≤ 320 ∧ T 15 64 = nI M') ∧ ∀ T', rSame T T' → hRel n (c + 1) (updN χ 27 ((am_gj 26 8 (χ 27)).getD j 0)) (am_pg σ 26 8 P') (am_pg τ 26 8 τ') T' := by
  obtain ⟨F, H, N, m, x, y, v, tv, kd, nx, ot, G, D, h1, h2, h3, h4, h5, h6⟩ := h
  have hN4 : N ≤ 40 := h1.1.1
  have now := h1.2.2.2.2.2.2.2.2.2.2.2.2.2.2.2.2.2.2.2.2.2
  have hok : okX n F H N kd (am_sg σ 26) ρ m (ρ 0 4) 0 := ⟨h1.2.2.1, h1.2.2.2.1, rOut_0 hN4 h1.2.2.2.2.2.1, h1.2.2.2.2.2.2.1, h1.2.2.2.2.2.2.2.1, h1.2.2.2.2.2.2.2.2.2.1, rfl⟩
  have σ2 : σ 0 2 = nI m := h1.2.2.2.2.2.2.2.2.1
  have σ3 : σ 0 3 = ρ 0 4 := h1.2.2.2.2.2.2.2.2.2.2.1
  obtain ⟨P', τ', j, e1, e2, e3, ⟨c1, c2, c3, c4⟩, e5, e6, e7, e8⟩ := hxs hn ⟨h1, h2, h5, h6⟩ hok
  have h3' : hTd (sC ρ 0 (am_u (ρ 0) 2 0)) m v tv c D := by
    obtain ⟨a1, a2, a3, a4, a5, a6⟩ := h3
    exact ⟨a1, a2, a3, a4, a5, fun q => vT_congr rfl rfl rfl rfl rfl (a6 q)⟩
  obtain ⟨T, t1, t2, t3, t4, t5⟩ := tell_ok hn (hS_2 (a := 0) h1) h3'
  have r2 : rSm ρ (sC ρ 0 (am_u (ρ 0) 2 0)) := rSm_of (rSame_2 now)
  have rT : rSm ρ T := ⟨fun c q1 q2 => (t3.1 c q1 q2).trans (r2.1 c q1 q2), fun k q1 q2 => (t3.2.1 k q1 q2).trans (r2.2.1 k q1 q2), t3.2.2⟩
  refine ⟨F, H, N, m, x, y, kd, nx, ot, G, D, D m (ρ 0 4) 0, P', τ', j, T, h1, by rw [σ2, σ3]; exact e1, t1, e3, t2, by rw [e8]; exact e2.1, by rw [e8]; exact e2.2.2.1, fun q => by rw [e8]; exact (e2.2.2.2.2.2 q).1, by rw [rT.2.1 3 (by omega) (by omega)]; exact h1.2.2.2.2.2.2.2.2.2.1, t4, hCh_b c4, t3.2.2, fun T' hT' => ?_⟩
  have rT' : rSm ρ T' := ⟨fun c q1 q2 => (hT'.1 c q1 (by omega)).trans (rT.1 c q1 q2), fun k q1 q2 => (hT'.2.1 k q1 (by omega)).trans (rT.2.1 k q1 q2), hT'.2.2⟩
  refine ⟨F, H, N, m, x, y, v, tv, kd, nx, ot, G, D, hS_same (fun _ _ => rfl) (fun _ _ _ => rfl) rT' c1, c2, ?_, hLf_same (by rw [e5]) e6 rT' h4, hPl_same rfl rfl rfl rT' c3, c4⟩
  obtain ⟨b1, b2, b3, b4, b5, b6⟩ := t5
  obtain ⟨q1, q2, q3⟩ := hT'
  refine ⟨by omega, by rw [q2 7 (by omega) (by omega)]; exact b2, by omega, by rw [q2 8 (by omega) (by omega)]; exact b4, by rw [q2 47 (by omega) (by omega)]; exact b5, fun z => ?_⟩
  rw [q2 47 (by omega) (by omega), q2 7 (by omega) (by omega)] at z
  rw [q2 4 (by omega) (by omega)]
  exact vT_congr (q1 25 (by omega) (by omega)) (q1 26 (by omega) (by omega)) (q2 51 (by omega) (by omega)) (q2 52 (by omega) (by omega)) (q2 53 (by omega) (by omega)) (b6 z)
theorem rSame_r {T : am_M} (h : ∃ M', M' ≤ 320 ∧ T 15 64 = nI M') : rSame T T := ⟨fun _ _ _ => rfl, fun _ _ _ => rfl, h⟩
theorem case6 (hn : 2200 < n) (hk : KT n c kont (nI k)) (h : hRel n c χ σ τ ρ) : L_c6 n L xs kont χ σ τ o ρ (nI k) = some true := by
  obtain ⟨F, H, N, m, x, y, kd, nx, ot, G, D, v, P', τ', j, T, -, e1, e2, e3, e4, e5, e6, e7, e8, e9, e10, e11, e12⟩ := search hn h
  unfold L_c6 X7_reached X8_reached
  rw [e1, e2]
  dsimp only [Option.bind]
  rw [e5]
  by_cases h0 : v.1 = 0
  · rw [if_pos h0, if_pos (decide_eq_true h0)]
    dsimp only
    rw [if_neg (by rw [e10]; decide)]
    rw [if_pos (by rw [e6, e4.2.1])]
    exact hk _ _ _ _ _ (e12 T (rSame_r e11))
  · rw [if_neg h0, if_neg (by rw [decide_eq_true_eq]; exact h0)]
    dsimp only
    rw [if_neg (by rw [e10]; decide)]
    rw [if_pos rfl]
    exact hk _ _ _ _ _ (e12 T (rSame_r e11))
theorem case9 (hn : 2200 < n) (hk : KT n c kont (nI k)) (h : hRel n c χ σ τ ρ) : L_c9 n L xs kont χ σ τ o ρ (nI k) = some true := by
  obtain ⟨F, H, N, m, x, y, kd, nx, ot, G, D, v, P', τ', j, T, h1, e1, e2, e3, e4, e5, e6, e7, e8, e9, e10, e11, e12⟩ := search hn h
  have m8 : m ≤ 8 := h1.2.2.2.2.2.2.2.1
  unfold L_c9 X7_differs X8_differs
  rw [e1, e2]
  dsimp only [Option.bind]
  rw [e5]
  by_cases h0 : v.1 = 0
  · obtain ⟨b, b1, b2⟩ := dif_both n hn m8 e3 e4 h0
    rw [if_pos h0, if_pos (decide_eq_true h0), b1, b2]
    cases b
    · dsimp only
      rw [if_neg (by decide)]
      dsimp only
      rw [if_neg (by rw [e10]; decide)]
      rw [if_pos rfl]
      exact hk _ _ _ _ _ (e12 T (rSame_r e11))
    · dsimp only
      rw [if_pos rfl]
      dsimp only
      rw [if_neg (by rw [e10]; decide)]
      rw [if_pos rfl]
      exact hk _ _ _ _ _ (e12 T (rSame_r e11))
  · rw [if_neg h0, if_neg (by rw [decide_eq_true_eq]; exact h0)]
    dsimp only
    rw [if_neg (by rw [e10]; decide)]
    rw [if_pos rfl]
    exact hk _ _ _ _ _ (e12 T (rSame_r e11))
theorem case7 (hn : 2200 < n) (hL : k + 5 < L) (hL2 : L ≤ 3072) (hk : KT n c kont (nI k)) (h : hRel n c χ σ τ ρ) : L_c7 n L xs kont χ σ τ o ρ (nI k) = some true := by
  have hr1 := hRel_ref (rSame_2 (a := 1) (hRel_now h)) h
  obtain ⟨F, H, N, m, x, y, kd, nx, ot, G, D, v, P', τ', j, T, h1, e1, e2, e3, e4, e5, e6, e7, e8, e9, e10, e11, e12⟩ := search hn h
  have hch : am_chib χ = true := by
    obtain ⟨F, H, N, m, x, y, v, tv, kd, nx, ot, G, D, -, -, -, -, -, h6⟩ := h
    exact hCh_b h6
  unfold L_c7
  rw [nI_1, if_neg (pu_g (n := L) (by omega) (by omega))]
  obtain ⟨a, ea⟩ : ∃ a, a = xs (nI (k + 1)).toNatClampNeg := ⟨_, rfl⟩
  rw [← ea]
  unfold X7_endings X8_endings X7_endings_J10
  rw [isIn_eq]
  by_cases c1 : a < -1
  · rw [if_pos c1, if_neg (by rw [decide_eq_true_eq]; exact fun q => Int32.not_le.mpr c1 q.1)]
    dsimp only [Option.bind]
    rw [if_neg (by rw [hch]; decide)]
    unfold X8_fail
    dsimp only
    rw [code_21]
    exact thr_end (α := Int32) hk hr1 (Or.inr ⟨rfl, rfl⟩)
  · rw [if_neg c1]
    by_cases c2 : a ≤ 2
    · rw [if_pos c2, if_pos (decide_eq_true ⟨Int32.not_lt.mp c1, c2⟩), e1, e2]
      dsimp only [Option.bind]
      rw [e5]
      by_cases h0 : v.1 = 0
      · have hF := (e3.2.2.2.2.2 h0).2.1
        obtain ⟨r, r1, r2⟩ := endings_loop n (k := a) e3 e4 h0 v.2.2.2.1 0 n n 0 (by omega) (by omega) (by omega)
        rw [nI_0] at r1 r2
        rw [if_pos h0, if_pos (decide_eq_true h0), show X4_endingsOf n (am_sg (am_pg σ 26 8 P') 26) a = some r from r1, r2]
        dsimp only
        rw [if_neg (by rw [e10]; decide)]
        exact thr_end (α := Int32) hk (e12 T (rSame_r e11)) (Or.inl ⟨_, rfl, e9, rfl⟩)
      · rw [if_neg h0, if_neg (by rw [decide_eq_true_eq]; exact h0)]
        dsimp only
        rw [if_neg (by rw [e10]; decide)]
        exact thr_end (α := Int32) hk (e12 T (rSame_r e11)) (Or.inl ⟨_, rfl, e9, rfl⟩)
    · rw [if_neg c2, if_neg (by rw [decide_eq_true_eq]; exact fun q => c2 q.2)]
      dsimp only [Option.bind]
      rw [if_neg (by rw [hch]; decide)]
      unfold X8_fail
      dsimp only
      rw [code_21]
      exact thr_end (α := Int32) hk hr1 (Or.inr ⟨rfl, rfl⟩)
end FIND
