/-! THE RELATION between class and reference at each call's boundary -/
theorem sg_app {α : Type} (f : Nat → α) (o k : Nat) : am_sg f o k = if k < 12 then f (o + k) else if k < 20 then f (k + 6) else f (o + k - 8) := by
  unfold am_sg
  by_cases h : k < 12
  · rw [if_pos h, show Nat.ble 12 k = false from Bool.eq_false_iff.mpr (fun q => by have := Nat.ble_eq.mp q; omega)]
  · rw [if_neg h, show Nat.ble 12 k = true from Nat.ble_eq.mpr (by omega)]
    dsimp only
    by_cases h2 : k < 20
    · rw [if_pos h2, show Nat.ble 20 k = false from Bool.eq_false_iff.mpr (fun q => by have := Nat.ble_eq.mp q; omega)]
    · rw [if_neg h2, show Nat.ble 20 k = true from Nat.ble_eq.mpr (by omega)]
theorem pg_app {α : Type} (f : Nat → α) (o m3 : Nat) (g : Nat → α) (k : Nat) : am_pg f o m3 g k = if k < 18 then f k else if k < 26 then g (k - 6) else if k < o then f k else if k < o + 12 then g (k - o) else if k < o + 12 + m3 then g (k - o + 8) else f k := by
  have ff : ∀ a b : Nat, ¬ a ≤ b → Nat.ble a b = false := fun a b h => Bool.eq_false_iff.mpr (fun q => h (Nat.ble_eq.mp q))
  unfold am_pg
  by_cases h : k < 18
  · rw [if_pos h, ff 18 k (by omega)]
  · rw [if_neg h, show Nat.ble 18 k = true from Nat.ble_eq.mpr (by omega)]
    dsimp only
    by_cases h2 : k < 26
    · rw [if_pos h2, ff 26 k (by omega)]
    · rw [if_neg h2, show Nat.ble 26 k = true from Nat.ble_eq.mpr (by omega)]
      dsimp only
      by_cases h3 : k < o
      · rw [if_pos h3, ff o k (by omega)]
      · rw [if_neg h3, show Nat.ble o k = true from Nat.ble_eq.mpr (by omega)]
        dsimp only
        by_cases h4 : k < o + 12
        · rw [if_pos h4, ff (o + 12) k (by omega)]
        · rw [if_neg h4, show Nat.ble (o + 12) k = true from Nat.ble_eq.mpr (by omega)]
          dsimp only
          by_cases h5 : k < o + 12 + m3
          · rw [if_pos h5, ff (o + 12 + m3) k (by omega)]
          · rw [if_neg h5, show Nat.ble (o + 12 + m3) k = true from Nat.ble_eq.mpr (by omega)]
/-- how many 'any' STEPS -/
def anyN (kd : Nat → Nat) : Nat → Nat
  | 0 => 0
  | k + 1 => anyN kd k + (if kd k = 4 then 1 else 0)
theorem anyN_le {kd : Nat → Nat} : ∀ k, anyN kd k ≤ k := by
  intro k
  induction k with
  | zero => exact Nat.le_refl _
  | succ k ih =>
    show anyN kd k + _ ≤ k + 1
    split <;> omega
def DP (n : Nat) (F H : am_M) (N : Nat) (kd : Nat → Nat) (D : Nat → Int32 → Int64 → VT) : Prop := (∀ (τ : Nat → Int64) (P R : am_M) (m : Nat) (room : Int32) (out : Int64), okX n F H N kd P R m room out → xRes n τ P R m room out (D m room out)) ∧ lowH H N
/-- what stands fast: the script, HANDS, ROOM, NEAR, WIDE, the tape -/
def hS (n : Nat) (F H σ ρ : am_M) (N m x y : Nat) (kd nx ot : Nat → Nat) (G : Nat → Nat → List Int32) (D : Nat → Int32 → Int64 → VT) : Prop := rScr n (am_sub F 1) H N kd nx ot G ∧ DP n F H N kd D ∧ okP F (am_sg σ 26) ∧ okR H ρ ∧ σ 18 8 = nI (anyN kd N) ∧ (∀ s, s < 40 → ρ 14 s = 0) ∧ 2 ≤ m ∧ m ≤ 8 ∧ σ 0 2 = nI m ∧ ρ 0 3 = nI m ∧ σ 0 3 = ρ 0 4 ∧ (∃ r, r ≤ 3 ∧ ρ 0 4 = nI r) ∧ x ≤ 99 ∧ y ≤ 99 ∧ σ 0 4 = nI x ∧ ρ 0 5 = nI x ∧ σ 0 5 = nI y ∧ ρ 0 6 = nI y ∧ (∃ f, f ≤ 700 ∧ σ 2 1 = nI f ∧ ρ 0 10 = nI f ∧ ∀ k, k < f → σ 3 k = ρ 3 k ∧ ∃ b, b < 256 ∧ σ 3 k = nI b) ∧ σ 1 3 = ρ 0 20 ∧ ρ 0 35 = -1 ∧ ∃ M', M' ≤ 320 ∧ ρ 15 64 = nI M'
/-- what the class's Space holds -/
def hRd (σ : am_M) (τ : Nat → Int64) (D : Nat → Int32 → Int64 → VT) : Prop := σ 26 12 = 0 ∨ (σ 26 12 = 1 ∧ ∃ m', m' ≤ 8 ∧ σ 26 13 = nI m' ∧ vC (am_sg σ 26) m' (D m' (σ 26 14) (τ 26)))
/-- what the reference told last -/
def hTd (ρ : am_M) (m v tv c : Nat) (D : Nat → Int32 → Int64 → VT) : Prop := v ≤ c ∧ ρ 0 7 = nI v ∧ tv ≤ c ∧ ρ 0 8 = nI tv ∧ (ρ 0 47 = -1 ∨ ∃ k, k ≤ v ∧ ρ 0 47 = nI k) ∧ (ρ 0 47 = ρ 0 7 → vT ρ (D m (ρ 0 4) 0))
def hLf (σ : am_M) (τ : Nat → Int64) (ρ : am_M) (N tv : Nat) : Prop := (ρ 0 56 = -1 ∨ ∃ k, k ≤ tv ∧ ρ 0 56 = nI k) ∧ ((σ 0 10 = 0 ∧ ρ 0 56 ≠ ρ 0 8) ∨ (σ 0 10 = 1 ∧ ρ 0 56 = ρ 0 8 ∧ ∀ s, s < N → (ρ 27 s = 1 ∧ (am_lushr (τ 0) (nI s)) &&& 1 = 0) ∨ (ρ 27 s = 0 ∧ ¬ (am_lushr (τ 0) (nI s)) &&& 1 = 0)))
/-- a PLAY that is told of -/
def plI (n : Nat) (P ρ : am_M) (m : Nat) : Prop := (∀ h, h < m → P 9 h = ρ 33 h ∧ P 10 h = ρ 34 h ∧ (∀ f, f < 8 → ρ 28 (8 * h + f) = P 2 (13 * h + (if f < 6 then f else f + 2))) ∧ ∃ b, b < 256 ∧ X2_waitsFor n (am_sub P 1) (nI h) = some (nI b) ∧ ρ 31 h = nI b) ∧ (∃ z, z ≤ 8 ∧ P 0 6 = nI z ∧ ρ 0 60 = nI z ∧ ∀ x, x < z → P 21 x = ρ 30 x) ∧ ∃ k, k ≤ 320 ∧ P 0 4 = nI k ∧ ρ 0 68 = nI k ∧ ∀ x, x < k → P 20 x = ρ 35 x
def hPl (n : Nat) (χ : Nat → Nat) (σ ρ : am_M) (m tv : Nat) : Prop := (∃ k, k ≤ tv ∧ ρ 0 58 = nI k) ∧ ((σ 0 9 = 0 ∧ ¬ (ρ 0 57 = ρ 0 3 ∧ ρ 0 58 = ρ 0 8)) ∨ (σ 0 9 = 1 ∧ ρ 0 57 = ρ 0 3 ∧ ρ 0 58 = ρ 0 8 ∧ χ 47 = 18 ∧ plI n (am_sg σ 46) ρ m))
def hCh (χ : Nat → Nat) : Prop := χ 27 < 200 ∧ χ 47 < 200 ∧ χ 61 < 200
theorem hCh_b {χ : Nat → Nat} (h : hCh χ) : am_chib χ = true := by
  unfold am_chib
  rw [show Nat.blt (χ 27) 200 = true from Nat.ble_eq.mpr h.1, show Nat.blt (χ 47) 200 = true from Nat.ble_eq.mpr h.2.1, show Nat.blt (χ 61) 200 = true from Nat.ble_eq.mpr h.2.2]
  rfl
def hRel (n c : Nat) (χ : Nat → Nat) (σ : am_M) (τ : Nat → Int64) (ρ : am_M) : Prop := ∃ (F H : am_M) (N m x y v tv : Nat) (kd nx ot : Nat → Nat) (G : Nat → Nat → List Int32) (D : Nat → Int32 → Int64 → VT), hS n F H σ ρ N m x y kd nx ot G D ∧ hRd σ τ D ∧ hTd ρ m v tv c D ∧ hLf σ τ ρ N tv ∧ hPl n χ σ ρ m tv ∧ hCh χ
/-- the reference changes nothing but its code, and what a search leaves behind -/
def rSame (ρ ρ' : am_M) : Prop := (∀ c, 1 ≤ c → c < 15 ∨ 24 < c → ρ' c = ρ c) ∧ (∀ k, k ≠ 2 → k < 40 ∨ (42 < k ∧ k ≠ 46 ∧ k ≠ 48 ∧ k ≠ 59) → ρ' 0 k = ρ 0 k) ∧ (∃ M', M' ≤ 320 ∧ ρ' 15 64 = nI M')
/-- the same, with what is told besides -/
def rSm (ρ ρ' : am_M) : Prop := (∀ c, 1 ≤ c → c < 15 ∨ 26 < c → ρ' c = ρ c) ∧ (∀ k, k ≠ 2 → k < 40 ∨ (53 < k ∧ k ≠ 59) → ρ' 0 k = ρ 0 k) ∧ (∃ M', M' ≤ 320 ∧ ρ' 15 64 = nI M')
theorem rSm_of {ρ ρ' : am_M} (h : rSame ρ ρ') : rSm ρ ρ' := ⟨fun c q1 q2 => h.1 c q1 (by omega), fun k q1 q2 => h.2.1 k q1 (by omega), h.2.2⟩
theorem hS_same {n : Nat} {F H σ σ' ρ ρ' : am_M} {N m x y : Nat} {kd nx ot : Nat → Nat} {G : Nat → Nat → List Int32} {D : Nat → Int32 → Int64 → VT} (hσ : ∀ k, (1 ≤ k ∧ k < 26) → σ' k = σ k) (h0 : ∀ k, 2 ≤ k → k ≤ 5 → σ' 0 k = σ 0 k) (hρ : rSm ρ ρ') (h : hS n F H σ ρ N m x y kd nx ot G D) : hS n F H σ' ρ' N m x y kd nx ot G D := by
  obtain ⟨a1, a2, a3, a4, a5, a6, a7, a8, a9, a10, a11, a12, a13, a14, a15, a16, a17, a18, ⟨f, f1, f2, f3, f4⟩, a20, a21, a22⟩ := h
  obtain ⟨r1, r2, r3⟩ := hρ
  refine ⟨a1, a2, fun c q1 q2 => ?_, fun c q1 q2 => ?_, by rw [hσ 18 (by omega)]; exact a5, by rw [r1 14 (by omega) (by omega)]; exact a6, a7, a8, by rw [h0 2 (by omega) (by omega)]; exact a9, by rw [r2 3 (by omega) (by omega)]; exact a10, by rw [h0 3 (by omega) (by omega), r2 4 (by omega) (by omega)]; exact a11, by rw [r2 4 (by omega) (by omega)]; exact a12, a13, a14, by rw [h0 4 (by omega) (by omega)]; exact a15, by rw [r2 5 (by omega) (by omega)]; exact a16, by rw [h0 5 (by omega) (by omega)]; exact a17, by rw [r2 6 (by omega) (by omega)]; exact a18, ⟨f, f1, by rw [hσ 2 (by omega)]; exact f2, by rw [r2 10 (by omega) (by omega)]; exact f3, by rw [hσ 3 (by omega), r1 3 (by omega) (by omega)]; exact f4⟩, by rw [hσ 1 (by omega), r2 20 (by omega) (by omega)]; exact a20, by rw [r2 35 (by omega) (by omega)]; exact a21, r3⟩
  · rw [← a3 c q1 q2, sg_app, sg_app, if_neg (by omega), if_pos q2, if_neg (by omega), if_pos q2]
    exact hσ (c + 6) (by omega)
  · rw [r1 c (by omega) (by omega)]
    exact a4 c q1 q2
theorem vT_congr {ρ ρ' : am_M} {v : VT} (h25 : ρ' 25 = ρ 25) (h26 : ρ' 26 = ρ 26) (h51 : ρ' 0 51 = ρ 0 51) (h52 : ρ' 0 52 = ρ 0 52) (h53 : ρ' 0 53 = ρ 0 53) (h : vT ρ v) : vT ρ' v := by
  unfold vT at h ⊢
  rw [h25, h26, h51, h52, h53]
  exact h
theorem hTd_same {ρ ρ' : am_M} {m v tv c : Nat} {D : Nat → Int32 → Int64 → VT} (hρ : rSame ρ ρ') (h : hTd ρ m v tv c D) : hTd ρ' m v tv (c + 1) D := by
  obtain ⟨a1, a2, a3, a4, a5, a6⟩ := h
  obtain ⟨r1, r2, r3⟩ := hρ
  refine ⟨by omega, by rw [r2 7 (by omega) (by omega)]; exact a2, by omega, by rw [r2 8 (by omega) (by omega)]; exact a4, by rw [r2 47 (by omega) (by omega)]; exact a5, fun q => ?_⟩
  rw [r2 47 (by omega) (by omega), r2 7 (by omega) (by omega)] at q
  rw [r2 4 (by omega) (by omega)]
  exact vT_congr (r1 25 (by omega) (by omega)) (r1 26 (by omega) (by omega)) (r2 51 (by omega) (by omega)) (r2 52 (by omega) (by omega)) (r2 53 (by omega) (by omega)) (a6 q)
theorem hLf_same {σ σ' : am_M} {τ τ' : Nat → Int64} {ρ ρ' : am_M} {N tv : Nat} (h0 : σ' 0 10 = σ 0 10) (ht : τ' 0 = τ 0) (hρ : rSm ρ ρ') (h : hLf σ τ ρ N tv) : hLf σ' τ' ρ' N tv := by
  obtain ⟨r1, r2, r3⟩ := hρ
  unfold hLf at h ⊢
  rw [h0, ht, r2 56 (by omega) (by omega), r2 8 (by omega) (by omega), r1 27 (by omega) (by omega)]
  exact h
theorem plI_congr {n : Nat} {P ρ ρ' : am_M} {m : Nat} (h28 : ρ' 28 = ρ 28) (h30 : ρ' 30 = ρ 30) (h31 : ρ' 31 = ρ 31) (h33 : ρ' 33 = ρ 33) (h34 : ρ' 34 = ρ 34) (h35 : ρ' 35 = ρ 35) (h60 : ρ' 0 60 = ρ 0 60) (h68 : ρ' 0 68 = ρ 0 68) (h : plI n P ρ m) : plI n P ρ' m := by
  unfold plI at h ⊢
  rw [h28, h30, h31, h33, h34, h35, h60, h68]
  exact h
theorem hPl_same {n : Nat} {χ χ' : Nat → Nat} {σ σ' ρ ρ' : am_M} {m tv : Nat} (hχ : χ' 47 = χ 47) (h0 : σ' 0 9 = σ 0 9) (hσ : am_sg σ' 46 = am_sg σ 46) (hρ : rSm ρ ρ') (h : hPl n χ σ ρ m tv) : hPl n χ' σ' ρ' m tv := by
  obtain ⟨r1, r2, r3⟩ := hρ
  obtain ⟨k, h⟩ := h
  refine ⟨by rw [r2 58 (by omega) (by omega)]; exact k, ?_⟩
  rw [h0, hσ, hχ, r2 57 (by omega) (by omega), r2 3 (by omega) (by omega), r2 58 (by omega) (by omega), r2 8 (by omega) (by omega)]
  rcases h with q | ⟨q1, q2, q3, q4, q5⟩
  · exact Or.inl q
  · exact Or.inr ⟨q1, q2, q3, q4, plI_congr (r1 28 (by omega) (by omega)) (r1 30 (by omega) (by omega)) (r1 31 (by omega) (by omega)) (r1 33 (by omega) (by omega)) (r1 34 (by omega) (by omega)) (r1 35 (by omega) (by omega)) (r2 60 (by omega) (by omega)) (r2 68 (by omega) (by omega)) q5⟩
theorem vC_congr {P P' : am_M} {m : Nat} {v : VT} (h : ∀ c, c < 28 → P' c = P c) (k : vC P m v) : vC P' m v := by
  unfold vC eRow at k ⊢
  rw [h 0 (by omega), h 20 (by omega), h 22 (by omega), h 25 (by omega), h 26 (by omega), h 27 (by omega)]
  exact k
/-- nothing happened but in the reference's code -/
theorem hRel_ref {n c : Nat} {χ : Nat → Nat} {σ : am_M} {τ : Nat → Int64} {ρ ρ' : am_M} (hρ : rSame ρ ρ') (h : hRel n c χ σ τ ρ) : hRel n (c + 1) χ σ τ ρ' := by
  obtain ⟨F, H, N, m, x, y, v, tv, kd, nx, ot, G, D, h1, h2, h3, h4, h5, h6⟩ := h
  exact ⟨F, H, N, m, x, y, v, tv, kd, nx, ot, G, D, hS_same (fun _ _ => rfl) (fun _ _ _ => rfl) (rSm_of hρ) h1, h2, hTd_same hρ h3, hLf_same rfl rfl (rSm_of hρ) h4, hPl_same rfl rfl rfl (rSm_of hρ) h5, h6⟩
theorem rSame_2 {ρ : am_M} {a : Int32} (h : ∃ M', M' ≤ 320 ∧ ρ 15 64 = nI M') : rSame ρ (sC ρ 0 (am_u (ρ 0) 2 a)) := ⟨fun c q1 q2 => sC_ne (by omega), fun k q1 q2 => am_u_ne q1, h⟩
theorem rSame_t {a b c : am_M} (h : rSame a b) (k : rSame b c) : rSame a c := ⟨fun x h1 h2 => (k.1 x h1 h2).trans (h.1 x h1 h2), fun x h1 h2 => (k.2.1 x h1 h2).trans (h.2.1 x h1 h2), k.2.2⟩
