/-! LAYING A WORD: the reference -/
theorem rB_congr {n : Nat} {τ : Nat → Int64} {S S' σ σ' : am_M} {N m : Nat} {kd nx ot : Nat → Nat} {G : Nat → Nat → List Int32} (hS : ∀ c, 11 ≤ c → c ≤ 18 → S' c = S c) (h1 : S' 0 1 = S 0 1) (h2 : S' 0 2 = S 0 2) (hσ : ∀ c, 4 ≤ c → c ≤ 14 → σ' c = σ c) (h3 : σ' 0 3 = σ 0 3) (h4 : σ' 0 4 = σ 0 4) (b : rB n τ S σ N m kd nx ot G) : rB n τ S' σ' N m kd nx ot G := by
  obtain ⟨b1, b2, b3, b4, b5, b6, b7⟩ := b
  refine ⟨rScr_congr hS (fun c q1 q2 => hσ c q1 (by omega)) b1, fun s hs => ?_, b3, b4, h1.trans b5, h3.trans b6, by rw [h2, h4]; exact b7⟩
  rw [hσ 14 (by omega) (by omega)]
  exact b2 s hs
theorem dg_congr {S S' : am_M} {h : Nat} (hh : h < 8) (h1 : S' 0 1 = S 0 1) (hr0 : S' 1 (13 * h + 0) = S 1 (13 * h + 0)) (hr1 : S' 1 (13 * h + 1) = S 1 (13 * h + 1)) (h11 : S' 11 = S 11) (h12 : S' 12 = S 12) : dg S' h = dg S h := by
  unfold dg X2_doing X2_isHand
  rw [X2_g1 hh, X2_g1 hh, X2_g0 hh, X2_g0 hh, hr0, hr1, h1]
  unfold X3_kindOf
  rw [show (am_sub S' 11) 0 7 = S' 11 7 from rfl, show (am_sub S 11) 0 7 = S 11 7 from rfl, show (am_sub S' 11) 1 = S' 12 from rfl, show (am_sub S 11) 1 = S 12 from rfl, h11, h12]
theorem act_congr {S S' σ σ' : am_M} {N m h t : Nat} {kd : Nat → Nat} {G : Nat → Nat → List Int32} (hh : h < 8) (hS : ∀ j, j < 13 → S' 1 (13 * h + j) = S 1 (13 * h + j)) (h1 : S' 0 1 = S 0 1) (h11 : S' 11 = S 11) (h12 : S' 12 = S 12) (hσ : ∀ j, j < 8 → σ' 15 (8 * h + j) = σ 15 (8 * h + j)) (a : act S σ N m kd G h t) : act S' σ' N m kd G h t := by
  obtain ⟨q0, q1, q2, q3, q4, q5, q6, q7, q8, q9⟩ := a
  refine ⟨rEv_congr hS hσ q0, q1, q2, by rw [hS _ (by omega)]; exact q3, by rw [hσ _ (by omega)]; exact q4, by rw [hS _ (by omega)]; exact q5, by rw [hσ _ (by omega)]; exact q6, ?_, fun w hw => ?_, fun q => ?_⟩
  · rw [dg_congr hh h1 (hS _ (by omega)) (hS _ (by omega)) h11 h12]; exact q7
  · have := q8 w hw
    rw [Nat.add_assoc] at *
    rw [hS _ (by omega), this, aF_congr (S := S') (S' := S) hh (fun j _ _ => hS j (by omega))]
  · obtain ⟨o, b1, b2, b3⟩ := q9 q
    exact ⟨o, b1, b2, by rw [hS _ (by omega)]; exact b3⟩
/-- the reference's contents behind a lay -/
def stL (σ : am_M) (F T s : Nat → Int32) : am_M := sC (sC (sC σ 15 F) 20 T) 16 s
theorem stL_15 {σ : am_M} {F T s F' : Nat → Int32} : sC (stL σ F T s) 15 F' = stL σ F' T s := by
  funext k
  simp only [stL, sC_app]
  by_cases h1 : k = 15
  · simp [h1]
  · by_cases h2 : k = 16 <;> by_cases h3 : k = 20 <;> simp [h1, h2, h3]
theorem stL_20 {σ : am_M} {F T s F' : Nat → Int32} : sC (stL σ F T s) 20 F' = stL σ F F' s := by
  funext k
  simp only [stL, sC_app]
  by_cases h1 : k = 15
  · simp [h1]
  · by_cases h2 : k = 16 <;> by_cases h3 : k = 20 <;> simp [h1, h2, h3]
theorem stL_16 {σ : am_M} {F T s F' : Nat → Int32} : sC (stL σ F T s) 16 F' = stL σ F T F' := by
  funext k
  simp only [stL, sC_app]
  by_cases h2 : k = 16 <;> simp [h2]
theorem stL_a {σ : am_M} {F T s : Nat → Int32} : stL σ F T s 15 = F := rfl
theorem stN_L {σ : am_M} {F T s : Nat → Int32} : stN (sC σ 16 s) F T = stL σ F T s := by
  funext k
  simp only [stN, stL, sC_app]
  by_cases h1 : k = 15
  · simp [h1]
  · by_cases h2 : k = 16 <;> by_cases h3 : k = 20 <;> simp [h1, h2, h3]
def lyN (F : Nat → Int32) (M p : Nat) (h o mk vl b be : Int32) : Nat → Int32 := upd (upd (upd (upd (upd (upd (upd F (65 + 6 * p + 0) h) (65 + 6 * p + 1) o) (65 + 6 * p + 2) mk) (65 + 6 * p + 3) vl) (65 + 6 * p + 4) b) (65 + 6 * p + 5) be) 64 (nI (M + 1))
theorem lay_rf (n : Nat) (hn : 2200 < n) {τ : Nat → Int64} {S σ : am_M} {N m h t M be o : Nat} {kd nx ot : Nat → Nat} {G : Nat → Nat → List Int32} (hb : rB n τ S σ N m kd nx ot G) (hq : rQ S σ N m kd G M) (hM : M < 320) (hh : h < m) (ha : act S σ N m kd G h t) (hk : kd t ≤ 2) (hbe : be < 2) (ho : o < m) (hf : S 1 (13 * h + 10) = nI o) (st : Nat → Int32) : ∃ st', X8_lay n (sC σ 16 st) (nI h) (nI be) = some (stL σ (lyN (uN (σ 15) (ipos (am_sub S 2) (nI (8 * h + o)) M) M) M (ipos (am_sub S 2) (nI (8 * h + o)) M) (nI h) (nI o) (S 1 (13 * h + 11)) (S 1 (13 * h + 12)) (σ 10 t) (nI be)) (upd (uT (σ 20) (ipos (am_sub S 2) (nI (8 * h + o)) M) M) (ipos (am_sub S 2) (nI (8 * h + o)) M) (σ 17 h + 1 + X8_farOf σ (nI h) (nI o))) st') := by
  have m8 := hb.2.2.2.1
  have hN4 := hb.1.1
  have hw := hq.2.1
  obtain ⟨hM3, w1, w2, w3⟩ := hw
  have hk8 : ∀ i, i < M → 8 * σ 15 (65 + 6 * i + 0) + σ 15 (65 + 6 * i + 1) = X6_pairAt (am_sub S 2) (nI i) := fun i hi => by
    obtain ⟨bw, to, lo, be, a1, a2, a3, a4, e1, e2, e3, e4, e5, e6, e7⟩ := w3 i hi
    rw [rWd_pair (σw := am_sub S 2) (σ := σ) (by omega) e5 a1 a2 a3 a4, e1, e2, show (8 : Int32) * nI bw = nI (8 * bw) from pk_mul 8 bw, nI_add]
  obtain ⟨s1, e1⟩ := askR0 n hn hb hh ha (by omega) st
  have hL := lay_out n (am_sub S 2) (sC σ 16 s1) (σ 15) (σ 20) M hM (by omega) (nI h) (nI be) (nI o) hk8 M n (by omega) (Nat.le_refl _)
  rw [show (8 : Int32) * nI h = nI (8 * h) from pk_mul 8 h, nI_add, stN_L, stN_L] at hL
  have hp := ipos_le (am_sub S 2) (nI (8 * h + o)) M
  obtain ⟨p, hpd⟩ : ∃ p, p = ipos (am_sub S 2) (nI (8 * h + o)) M := ⟨_, rfl⟩
  rw [← hpd] at hL hp ⊢
  have u0 : uN (σ 15) M M = σ 15 := by
    funext x
    unfold uN
    rw [if_neg (by omega)]
  have v0 : uT (σ 20) M M = σ 20 := by
    funext x
    unfold uT
    rw [if_neg (by omega)]
  have s0 : stL σ (σ 15) (σ 20) s1 = sC σ 16 s1 := by
    funext k
    simp only [stL, sC_app]
    by_cases h1 : k = 15
    · simp [h1]
    · by_cases h2 : k = 16 <;> by_cases h3 : k = 20 <;> simp [h1, h2, h3]
  rw [u0, v0, s0] at hL
  -- asked in the midst
  have rowsame : ∀ F : Nat → Int32, (∀ j, j < 64 → F j = σ 15 j) → ∀ (T s : Nat → Int32), rB n τ S (stL σ F T s) N m kd nx ot G ∧ act S (stL σ F T s) N m kd G h t := by
    intro F hF T s
    refine ⟨rB_congr (S := S) (σ := σ) (fun _ _ _ => rfl) rfl rfl (fun c q1 q2 => ?_) rfl rfl hb, act_congr (by omega) (fun _ _ => rfl) rfl rfl rfl (fun j hj => ?_) ha⟩
    · simp only [stL, sC_app]
      rw [if_neg (by omega), if_neg (by omega), if_neg (by omega)]
    · exact hF _ (by omega)
  have huN : ∀ j, j < 65 → uN (σ 15) p M j = σ 15 j := fun j hj => if_neg (by omega)
  obtain ⟨F1, hF1⟩ : ∃ F1, F1 = upd (upd (uN (σ 15) p M) (65 + 6 * p + 0) (nI h)) (65 + 6 * p + 1) (nI o) := ⟨_, rfl⟩
  have f1 : ∀ j, j < 65 → F1 j = σ 15 j := fun j hj => by rw [hF1, upd_ne (by omega), upd_ne (by omega)]; exact huN j hj
  obtain ⟨b1, a1⟩ := rowsame F1 (fun j hj => f1 j (by omega)) (uT (σ 20) p M) s1
  obtain ⟨s2, e2⟩ := askR1 n hn b1 hh a1 (by omega) s1
  rw [stL_16] at e2
  obtain ⟨F2, hF2⟩ : ∃ F2, F2 = upd F1 (65 + 6 * p + 2) (S 1 (13 * h + 11)) := ⟨_, rfl⟩
  have f2 : ∀ j, j < 65 → F2 j = σ 15 j := fun j hj => by rw [hF2, upd_ne (by omega)]; exact f1 j hj
  obtain ⟨b2, a2⟩ := rowsame F2 (fun j hj => f2 j (by omega)) (uT (σ 20) p M) s2
  obtain ⟨s3, e3⟩ := askR2 n hn b2 hh a2 (by omega) s2
  rw [stL_16, stL_16] at e3
  have e2' : X8_asked n (stL σ F1 (uT (σ 20) p M) s1) (nI h) 1 = some (S 1 (13 * h + 11), stL σ F1 (uT (σ 20) p M) s2) := by
    rw [stL_16] at e2
    exact e2
  obtain ⟨F3, hF3⟩ : ∃ F3, F3 = upd F2 (65 + 6 * p + 3) (S 1 (13 * h + 12)) := ⟨_, rfl⟩
  have f3 : ∀ j, j < 65 → F3 j = σ 15 j := fun j hj => by rw [hF3, upd_ne (by omega)]; exact f2 j hj
  refine ⟨s3, ?_⟩
  unfold X8_lay
  rw [e1]
  dsimp only [Option.bind]
  rw [hf, show X8_words (sC σ 16 s1) = nI M from w2, hL]
  have j220 : ∀ (F : Nat → Int32) (z : Int32), F 64 = nI M → X8_lay_J220 n (stL σ F (uT (σ 20) p M) s3) (nI h) (nI o) (nI p) z (X8_wordAt (nI p) + 5) = some (stL σ (upd (upd F (65 + 6 * p + 5) z) 64 (nI (M + 1))) (upd (uT (σ 20) p M) p (σ 17 h + 1 + X8_farOf σ (nI h) (nI o))) s3) := by
    intro F z hF
    unfold X8_lay_J220
    rw [pu_w5, if_neg (pu_g (n := 1985) (by omega) (by omega)), if_neg (pu_g (n := 8) (by omega) (by omega)), if_neg (pu_g (n := 321) (by omega) (by omega)), nI_clamp (by omega), nI_clamp (by omega), nI_clamp (by omega), pu_64, stL_15, stL_15]
    show some (sC (stL σ (upd (upd F (65 + 6 * p + 5) z) 64 (upd F (65 + 6 * p + 5) z 64 + 1)) (uT (σ 20) p M) s3) 20 _) = _
    rw [stL_20, upd_ne (f := F) (by omega), hF, nI_1]
    rfl
  unfold X8_lay_J126
  rw [pu_w0, pu_w1, pu_w2, pu_w3, pu_w4, if_neg (pu_g (n := 1985) (by omega) (by omega)), if_neg (pu_g (n := 1985) (by omega) (by omega)), nI_clamp (by omega), nI_clamp (by omega), stL_15, stL_a, ← hF1, e2']
  dsimp only [Option.bind]
  rw [if_neg (pu_g (n := 1985) (by omega) (by omega)), nI_clamp (by omega), stL_15, stL_a, ← hF2, e3]
  dsimp only
  rw [if_neg (pu_g (n := 1985) (by omega) (by omega)), nI_clamp (by omega), stL_15, stL_a, ← hF3, X8_o0 (by omega), show (stL σ F3 (uT (σ 20) p M) s3) 15 (8 * h + 0) = nI t from (f3 _ (by omega)).trans ha.2.2.2.2.1]
  dsimp only
  have htN := ha.2.1
  rw [if_neg (pu_g (n := 80) (by omega) (by omega)), if_neg (pu_g (n := 1985) (by omega) (by omega)), nI_clamp (by omega), nI_clamp (by omega), stL_15, show stL σ F2 (uT (σ 20) p M) s3 10 t = σ 10 t from rfl]
  have fin : ∀ z : Int32, X8_lay_J220 n (stL σ (upd F3 (65 + 6 * p + 4) (σ 10 t)) (uT (σ 20) p M) s3) (nI h) (nI o) (nI p) z (X8_wordAt (nI p) + 5) = some (stL σ (lyN (uN (σ 15) p M) M p (nI h) (nI o) (S 1 (13 * h + 11)) (S 1 (13 * h + 12)) (σ 10 t) z) (upd (uT (σ 20) p M) p (σ 17 h + 1 + X8_farOf σ (nI h) (nI o))) s3) := by
    intro z
    rw [j220 _ _ (by rw [upd_ne (by omega), f3 _ (by omega)]; exact w2), hF3, hF2, hF1]
    rfl
  rcases (show be = 0 ∨ be = 1 by omega) with q | q
  · subst q
    rw [if_pos (show nI 0 = 0 from rfl)]
    exact fin 0
  · subst q
    rw [if_neg (show ¬ nI 1 = 0 by decide)]
    exact fin 1
