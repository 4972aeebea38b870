/-! A MOVE THAT LAYS A WORD -/
theorem am_put_ne {α : Type} {f g : Nat → α} {o len k : Nat} (h : k < o ∨ o + len ≤ k) : am_put f o len g k = f k := by
  unfold am_put
  by_cases h1 : o ≤ k
  · rw [show Nat.ble o k = true from Nat.ble_eq.mpr h1]
    dsimp only
    rw [show Nat.ble (o + len) k = true from Nat.ble_eq.mpr (by omega)]
  · rw [show Nat.ble o k = false from Bool.eq_false_iff.mpr (fun q => h1 (Nat.ble_eq.mp q))]
theorem rQ_congr {S S' σ σ' : am_M} {N m M : Nat} {kd : Nat → Nat} {G : Nat → Nat → List Int32} (m8 : m ≤ 8) (h1 : S' 1 = S 1) (h2 : ∀ c, 2 ≤ c → c ≤ 5 → S' c = S c) (h15 : σ' 15 = σ 15) (q : rQ S σ N m kd G M) : rQ S' σ' N m kd G M := by
  obtain ⟨a, b, c⟩ := q
  refine ⟨fun h hh => rHD_congr (S := S) (σ := σ) (by omega) (fun j _ => by rw [h1]) (fun j _ => by rw [h15]) (a h hh), rW_congr (σw := am_sub S 2) (σ := σ) (fun c hc => ?_) (fun j _ => by rw [h15]) b, fun k hk => by rw [h15]; exact c k hk⟩
  exact h2 (2 + c) (by omega) (by omega)
theorem pend_act {n : Nat} {τ : Nat → Int64} {S σ : am_M} {N m h t : Nat} {kd nx ot : Nat → Nat} {G : Nat → Nat → List Int32} (b : rB n τ S σ N m kd nx ot G) (a : act S σ N m kd G h t) : pend n τ S σ N m kd nx ot G h t := by
  obtain ⟨b1, b2, b3, b4, b5, b6, b7⟩ := b
  obtain ⟨q0, q1, q2, q3, q4, q5, q6, q7, q8, q9⟩ := a
  exact ⟨b1, b2, b6, q0, q1, by omega, q3, q4, q5, q6⟩
def S00 (S : am_M) : am_M := sC S 0 (am_u (S 0) 12 (-1))
def M00 (σ : am_M) : am_M := sC σ 0 (am_u (σ 0) 40 (-1))
theorem rB_00 {n : Nat} {τ : Nat → Int64} {S σ : am_M} {N m : Nat} {kd nx ot : Nat → Nat} {G : Nat → Nat → List Int32} (b : rB n τ S σ N m kd nx ot G) : rB n τ (S00 S) (M00 σ) N m kd nx ot G := by
  refine rB_congr (S := S) (σ := σ) (fun c q1 q2 => ?_) rfl rfl (fun c q1 q2 => ?_) rfl rfl b
  · unfold S00
    rw [sC_app, if_neg (by omega)]
  · unfold M00
    rw [sC_app, if_neg (by omega)]
theorem rQ_00 {S σ : am_M} {N m M : Nat} {kd : Nat → Nat} {G : Nat → Nat → List Int32} (m8 : m ≤ 8) (q : rQ S σ N m kd G M) : rQ (S00 S) (M00 σ) N m kd G M := by
  refine rQ_congr m8 rfl (fun c q1 q2 => ?_) rfl q
  unfold S00
  rw [sC_app, if_neg (by omega)]
theorem act_00 {S σ : am_M} {N m h t : Nat} {kd : Nat → Nat} {G : Nat → Nat → List Int32} (hh : h < 8) (a : act S σ N m kd G h t) : act (S00 S) (M00 σ) N m kd G h t := act_congr (S := S) (σ := σ) hh (fun _ _ => rfl) rfl rfl rfl (fun _ _ => rfl) a
theorem abs_nI : ∀ h, h < 8 → ∀ o, o < 8 → J9_abs_0f7a4 (nI h - nI o) = nI ((h - o) + (o - h)) := by decide +kernel
theorem far_cl {S : am_M} {h o x y : Nat} (hh : h < 8) (ho : o < 8) (hx : S 0 3 = nI x) (hy : S 0 4 = nI y) : X2_far S (nI h) (nI o) = nI (x + ((h - o) + (o - h)) * y) := by
  unfold X2_far
  rw [abs_nI h hh o ho, hx, hy, pk_mul, nI_add]
theorem far_rf {σ : am_M} {h o x y : Nat} (hh : h < 8) (ho : o < 8) (hx : σ 0 5 = nI x) (hy : σ 0 6 = nI y) : X8_farOf σ (nI h) (nI o) = nI (x + ((h - o) + (o - h)) * y) := by
  unfold X8_farOf
  rw [abs_nI h hh o ho, hx, hy, pk_mul, nI_add]
theorem far_le {h o x y : Nat} (hh : h < 8) (ho : o < 8) (hx : x ≤ 99) (hy : y ≤ 99) : x + ((h - o) + (o - h)) * y ≤ 792 := by
  have : ((h - o) + (o - h)) * y ≤ 7 * 99 := Nat.mul_le_mul (by omega) hy
  omega
theorem mv_lay (n : Nat) (hn : 2200 < n) {τ : Nat → Int64} {S σ : am_M} {N m h t M be : Nat} {kd nx ot : Nat → Nat} {G : Nat → Nat → List Int32} (hb : rB n τ S σ N m kd nx ot G) (hq : rQ S σ N m kd G M) (hg : S 0 15 = 0) (hz : zr σ m) (hMs : M ≤ sumF (ph S N) m) (hh : h < m) (ha : act S σ N m kd G h t) (hk : kd t ≤ 2) (hbe : be < 2) (st : Nat → Int32) :
    ∃ S1 S' σ2 σ', X2_lay n (S00 S) (nI h) (nI be) = some S1 ∧ X2_goOn n τ S1 = some S' ∧ X8_lay n (sC (M00 σ) 16 st) (nI h) (nI be) = some σ2 ∧ X8_goOn n (sC σ2 17 (upd (σ2 17) h (σ2 17 h + 1))) (nI h) = some σ' ∧ mvd n τ S σ S' σ' N m kd nx ot G M (M + 1) := by
  have m8 := hb.2.2.2.1
  have hN4 := hb.1.1
  have hM := ph_room hN4 m8 hh hq.1 ha hMs
  have hb0 := rB_00 hb
  have hq0 := rQ_00 m8 hq
  have ha0 := act_00 (by omega) ha
  obtain ⟨o, ho, hoh, hf⟩ := ha.2.2.2.2.2.2.2.2.2 (by omega)
  have htN := ha.2.1
  obtain ⟨bb, g1, g2, g3, g4⟩ := (hb.1.2.2.2 t htN).2.2.2.2.2.2 (by omega)
  have hwM : (am_sub S 2) 0 4 = nI M := hq.2.1.2.1
  -- the reference
  obtain ⟨s1, e1⟩ := lay_rf n hn hb0 hq0 hM hh ha0 hk hbe ho hf st
  obtain ⟨p, hpd⟩ : ∃ p, p = ipos (am_sub (S00 S) 2) (nI (8 * h + o)) M := ⟨_, rfl⟩
  have hp : p ≤ M := by rw [hpd]; exact ipos_le _ _ _
  rw [← hpd] at e1
  have hm10 : M00 σ 10 t = nI bb := g4
  rw [hm10] at e1
  obtain ⟨F, hF⟩ : ∃ F, F = lyN (uN (M00 σ 15) p M) M p (nI h) (nI o) (S00 S 1 (13 * h + 11)) (S00 S 1 (13 * h + 12)) (nI bb) (nI be) := ⟨_, rfl⟩
  obtain ⟨T, hT⟩ : ∃ T, T = upd (uT (M00 σ 20) p M) p (M00 σ 17 h + 1 + X8_farOf (M00 σ) (nI h) (nI o)) := ⟨_, rfl⟩
  have rw1 := rW_add (b := bb) (be := be) (mk := S00 S 1 (13 * h + 11)) (vl := S00 S 1 (13 * h + 12)) (th := S 8 h + 1 + X2_far S (nI h) (nI o)) (T := T) (s := s1) hq0.2.1 hM hp (show h < 8 by omega) (show o < 8 by omega) (by omega) hbe
  have ne1 := ne_add (σ := M00 σ) (p := p) (mk := S00 S 1 (13 * h + 11)) (vl := S00 S 1 (13 * h + 12)) (b := nI bb) (be := nI be) hM hp (show h < 8 by omega) (show o < 8 by omega) hoh hq0.2.2
  rw [← hF] at e1 rw1 ne1
  rw [← hT] at e1
  have hF64 : ∀ j, j < 64 → F j = σ 15 j := fun j hj => by
    rw [hF]
    unfold lyN
    rw [upd_ne (by omega), upd_ne (by omega), upd_ne (by omega), upd_ne (by omega), upd_ne (by omega), upd_ne (by omega), upd_ne (by omega)]
    unfold uN
    rw [if_neg (by omega)]
    rfl
  -- the class
  obtain ⟨W, hW⟩ : ∃ W, W = insW (am_sub (S00 S) 2) M p (nI (256 * (8 * h + o) + 2 * bb + be)) (S00 S 1 (13 * h + 11)) (S00 S 1 (13 * h + 12)) (S 8 h + 1 + X2_far S (nI h) (nI o)) := ⟨_, rfl⟩
  rw [← hW] at rw1
  obtain ⟨q1, hq1⟩ : ∃ q1, q1 = sC (S00 S) 8 (upd (S 8) h (S 8 h + 1)) := ⟨_, rfl⟩
  have hWc : ∀ c, c ≤ 4 → insW (am_sub q1 2) M p (nI (256 * (8 * h + o) + 2 * bb + be)) (S00 S 1 (13 * h + 11)) (S00 S 1 (13 * h + 12)) (S 8 h + 1 + X2_far S (nI h) (nI o)) c = W c := fun c hc => by
    rw [hW, hq1]
    rcases (show c = 0 ∨ c = 1 ∨ c = 2 ∨ c = 3 ∨ c = 4 by omega) with rfl | rfl | rfl | rfl | rfl <;> rfl
  obtain ⟨W', hW'⟩ : ∃ W', W' = insW (am_sub q1 2) M p (nI (256 * (8 * h + o) + 2 * bb + be)) (S00 S 1 (13 * h + 11)) (S00 S 1 (13 * h + 12)) (S 8 h + 1 + X2_far S (nI h) (nI o)) := ⟨_, rfl⟩
  rw [← hW'] at hWc
  obtain ⟨S1, hS1⟩ : ∃ S1, S1 = sC (am_put q1 2 5 W') 0 (am_u ((am_put q1 2 5 W') 0) 15 (((am_put q1 2 5 W') 0 15) ||| (1 <<< (nI h &&& 31)))) := ⟨_, rfl⟩
  have c1 : X2_lay n (S00 S) (nI h) (nI be) = some S1 := by
    unfold X2_lay X2_tick
    dsimp only [Option.bind]
    rw [show jput 8 (S00 S 8) (nI h) (jat 8 (S00 S 8) (nI h) + 1) = upd (S 8) h (S 8 h + 1) by
      rw [jat_nI (by omega) (by omega), jput_nI (by omega) (by omega)]; rfl, ← hq1, X2_g10 (by omega), X2_g11 (by omega), X2_g12 (by omega), X2_g0 (by omega)]
    rw [show S00 S 1 (13 * h + 10) = nI o from hf, show q1 1 (13 * h + 0) = nI t by rw [hq1]; exact ha.2.2.2.1, pu_pair, jat_nI (by omega) (by omega), show q1 16 t = nI bb by rw [hq1]; exact g3, tag_lo bb (by omega) be hbe, jat_nI (by omega) (by omega), show q1 8 h = S 8 h + 1 by rw [hq1]; exact upd_eq, show X2_far q1 (nI h) (nI o) = X2_far S (nI h) (nI o) by rw [hq1]; rfl, X6_add_eq n (am_sub q1 2) M (by rw [hq1]; exact hwM) hM (by omega), tag_hi (8 * h + o) (by omega) (2 * bb + be) (by omega), ipos_congr (σ := am_sub (S00 S) 2) (σ' := am_sub q1 2) (by rw [hq1]), ← hpd, show q1 1 (13 * h + 11) = S00 S 1 (13 * h + 11) by rw [hq1], show q1 1 (13 * h + 12) = S00 S 1 (13 * h + 12) by rw [hq1], ← Nat.add_assoc, ← hW']
    dsimp only
    unfold X2_hasDone
    dsimp only
    rw [hS1]
  have S1c : ∀ c, 11 ≤ c → S1 c = S c := fun c hc => by
    rw [hS1, sC_app, if_neg (by omega), am_put_ne (by omega), hq1, sC_app, if_neg (by omega)]
    unfold S00
    rw [sC_app, if_neg (by omega)]
  have S1r : S1 1 = S 1 := by rw [hS1, hq1]; rfl
  have S1w : ∀ c, c ≤ 4 → S1 (2 + c) = W c := fun c hc => by
    rw [← hWc c hc, hS1, sC_app, if_neg (by omega)]
    rcases (show c = 0 ∨ c = 1 ∨ c = 2 ∨ c = 3 ∨ c = 4 by omega) with rfl | rfl | rfl | rfl | rfl <;> rfl
  have S1f : ∀ k, k ≠ 12 → k ≠ 15 → S1 0 k = S 0 k := fun k h1 h2 => by
    rw [hS1, hq1]
    show (match Nat.beq k 15 with | true => _ | false => (match Nat.beq k 12 with | true => _ | false => _)) = _
    rw [show Nat.beq k 15 = false from Bool.eq_false_iff.mpr (fun q => h2 (Nat.eq_of_beq_eq_true q)), show Nat.beq k 12 = false from Bool.eq_false_iff.mpr (fun q => h1 (Nat.eq_of_beq_eq_true q))]
  have S112 : S1 0 12 = -1 := by rw [hS1, hq1]; rfl
  have S115 : S1 0 15 = nI (2 ^ h) := by
    rw [hS1, hq1]
    show S 0 15 ||| (1 <<< (nI h &&& 31)) = _
    rw [hg, ← nI_0, (bit_or 0 (by omega) h (by omega)).1, Nat.zero_or]
  -- both
  obtain ⟨σ1, hσ1⟩ : ∃ σ1, σ1 = sC (stL (M00 σ) F T s1) 17 (upd ((stL (M00 σ) F T s1) 17) h ((stL (M00 σ) F T s1) 17 h + 1)) := ⟨_, rfl⟩
  have σ15 : σ1 15 = F := by rw [hσ1]; rfl
  have σc : ∀ c, c ≠ 0 → c < 15 ∨ 20 < c → σ1 c = σ c := fun c h1 h2 => by
    rw [hσ1, sC_app, if_neg (by omega)]
    unfold stL M00
    rw [sC_app, if_neg (by omega), sC_app, if_neg (by omega), sC_app, if_neg (by omega), sC_app, if_neg (by omega)]
  have σf : ∀ k, k ≠ 40 → σ1 0 k = σ 0 k := fun k h1 => by
    rw [hσ1]
    show (match Nat.beq k 40 with | true => _ | false => _) = _
    rw [show Nat.beq k 40 = false from Bool.eq_false_iff.mpr (fun q => h1 (Nat.eq_of_beq_eq_true q))]
  have σ40 : σ1 0 40 = -1 := by rw [hσ1]; rfl
  have hb1 : rB n τ S1 σ1 N m kd nx ot G := rB_congr (S := S) (σ := σ) (fun c q1 _ => S1c c q1) (S1f 1 (by omega) (by omega)) (S1f 2 (by omega) (by omega)) (fun c q1 q2 => σc c (by omega) (by omega)) (σf 3 (by omega)) (σf 4 (by omega)) hb
  have ha1 : act S1 σ1 N m kd G h t := act_congr (S := S) (σ := σ) (by omega) (fun j _ => by rw [S1r]) (S1f 1 (by omega) (by omega)) (S1c 11 (by omega)) (S1c 12 (by omega)) (fun j hj => by rw [σ15]; exact hF64 _ (by omega)) ha
  obtain ⟨f, s2, g, s3, d1, d2, d3, d4, d5, d6, d7⟩ := fin1 n hn hh hb1 (M' := M + 1) (rW_congr (fun c hc => S1w c (by omega)) (fun j _ => by rw [σ15, stL_a]) rw1) (fun k hk => by rw [σ15]; exact ne1 k hk) (fun j h1 h2 => by rw [σ15, hF64 j h2]; exact hz j h1 h2) (pend_act hb1 ha1) (fun j hj hjh => rHD_congr (S := S) (σ := σ) (by omega) (fun i _ => by rw [S1r]) (fun i hi => by rw [σ15]; exact hF64 _ (by omega)) (hq.1 j hj)) S115
  refine ⟨S1, _, stL (M00 σ) F T s1, _, c1, d1, e1, by rw [← hσ1]; exact d2, d3, d4, rfl, d5, ?_, Nat.le_refl _, fun B hB hc => ?_, fun c hc => ?_, fun k hk => ?_, fun c h1 h2 => ?_, fun k hk => ?_, Or.inl ⟨S112, σ40⟩⟩
  · refine sumF_lt m (fun j hj => ?_) ⟨h, hh, ?_⟩
    · by_cases e : j = h
      · subst e
        rw [ph_act hN4 ha]
        omega
      · rw [d6 j hj e, ph_congr (S := S) (S' := S1) (by rw [S1r]) (by rw [S1r])]
        exact Nat.le_refl _
    · rw [ph_act hN4 ha]
      exact d7
  · obtain ⟨r1, r2, r3, r4, ⟨x, x1, x2, x3⟩, ⟨y, y1, y2, y3⟩⟩ := hc
    have x8 : S1 8 = upd (S 8) h (S 8 h + 1) := by rw [hS1, hq1]
    have x9 : S1 9 = S 9 := by rw [hS1, hq1]; rfl
    have x10 : S1 10 = S 10 := by rw [hS1, hq1]; rfl
    have y17 : σ1 17 = upd (σ 17) h (σ 17 h + 1) := by rw [hσ1]; rfl
    have y18 : σ1 18 = σ 18 := by rw [hσ1]; rfl
    have y19 : σ1 19 = σ 19 := by rw [hσ1]; rfl
    have y20 : σ1 20 = T := by rw [hσ1]; rfl
    refine ⟨fun j hj => ?_, fun j hj => ?_, fun j hj => ?_, fun k hk => ?_, ⟨x, x1, (S1f 3 (by omega) (by omega)).trans x2, (σf 5 (by omega)).trans x3⟩, ⟨y, y1, (S1f 4 (by omega) (by omega)).trans y2, (σf 6 (by omega)).trans y3⟩⟩
    · show ∃ a, a ≤ B + 1000 ∧ S1 8 j = nI a ∧ σ1 17 j = nI a
      rw [x8, y17]
      obtain ⟨a, a1, a2, a3⟩ := r1 j hj
      by_cases e : j = h
      · subst e
        exact ⟨a + 1, by omega, by rw [upd_eq, a2, nI_1], by rw [upd_eq, a3, nI_1]⟩
      · exact ⟨a, by omega, by rw [upd_ne e, a2], by rw [upd_ne e, a3]⟩
    · show S1 9 j = σ1 18 j
      rw [x9, y18]; exact r2 j hj
    · show ∃ a, a ≤ B + 1000 ∧ S1 10 j = nI a ∧ σ1 19 j = nI a
      obtain ⟨a, a1, a2, a3⟩ := r3 j hj
      exact ⟨a, by omega, by rw [x10, a2], by rw [y19, a3]⟩
    · show ∃ a, a ≤ B + 1000 ∧ S1 6 k = nI a ∧ σ1 20 k = nI a
      rw [show S1 6 = W 4 from S1w 4 (by omega), y20, hW, hT]
      show ∃ a, a ≤ B + 1000 ∧ upd (upW (am_sub (S00 S) 2) M p 4) p _ k = nI a ∧ _
      by_cases e : k = p
      · subst e
        obtain ⟨a, a1, a2, a3⟩ := r1 h (by omega)
        have hfl := far_le (h := h) (o := o) (x := x) (y := y) (by omega) (by omega) x1 y1
        refine ⟨a + 1 + (x + ((h - o) + (o - h)) * y), by omega, ?_, ?_⟩
        · rw [upd_eq, far_cl (by omega) (by omega) x2 y2, a2, nI_1, nI_add]
        · rw [upd_eq, far_rf (σ := M00 σ) (by omega) (by omega) x3 y3, show M00 σ 17 h = nI a from a3, nI_1, nI_add]
      · rw [upd_ne e, upd_ne e]
        unfold upW uT
        rw [if_pos (by omega)]
        by_cases hpk : p < k ∧ k ≤ M
        · obtain ⟨a, a1, a2, a3⟩ := r4 (k - 1) (by omega)
          exact ⟨a, by omega, (if_pos hpk).trans a2, (if_pos hpk).trans a3⟩
        · obtain ⟨a, a1, a2, a3⟩ := r4 k (by omega)
          exact ⟨a, by omega, (if_neg hpk).trans a2, (if_neg hpk).trans a3⟩
  · rw [sC_app, if_neg (by omega)]
    unfold stS
    rw [sC_app, if_neg (by omega), sC_app, if_neg (by omega)]
    exact S1c c hc
  · show (match Nat.beq k 15 with | true => _ | false => S1 0 k) = _
    rw [show Nat.beq k 15 = false from Bool.eq_false_iff.mpr (fun q => by have := Nat.eq_of_beq_eq_true q; omega)]
    exact S1f k (by omega) (by omega)
  · unfold stM
    rw [sC_app, if_neg (by omega), sC_app, if_neg (by omega)]
    exact σc c h1 h2
  · show σ1 0 k = _
    exact σf k (by omega)
