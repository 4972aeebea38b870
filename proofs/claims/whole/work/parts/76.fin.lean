/-! THE END OF A MOVE -/
theorem fin1m (n : Nat) (hn : 2200 < n) {τ : Nat → Int64} {S σ S1 σ1 : am_M} {N m h t M M' : Nat} {kd nx ot : Nat → Nat} {G : Nat → Nat → List Int32} (hh : h < m) (hb : rB n τ S σ N m kd nx ot G) (hq : rQ S σ N m kd G M) (hz : zr σ m) (ha : act S σ N m kd G h t)
    (S1c : ∀ c, 11 ≤ c → S1 c = S c) (S1f : ∀ k, k < 12 ∨ 15 < k → S1 0 k = S 0 k) (S1o : ∀ j, j < m → j ≠ h → ∀ i, i < 13 → S1 1 (13 * j + i) = S 1 (13 * j + i))
    (σc : ∀ c, c ≠ 0 → c < 15 ∨ 20 < c → σ1 c = σ c) (σf : ∀ k, k < 40 ∨ 42 < k → σ1 0 k = σ 0 k) (σo : ∀ x, x < 64 → ¬ (8 * h ≤ x ∧ x < 8 * h + 8) → σ1 15 x = σ 15 x)
    (hw1 : rW (am_sub S1 2) σ1 M') (ne1 : ∀ k, k < M' → σ1 15 (65 + 6 * k + 0) ≠ σ1 15 (65 + 6 * k + 1)) (hM : M' ≤ M + 1) (hclk : ∀ B, B ≤ 1000000 → rClk S σ M B → rClk S1 σ1 M' (B + 1000)) (hany : anyR S1 σ1 m N kd) (hp : pend n τ S1 σ1 N m kd nx ot G h t) (h15 : S1 0 15 = nI (2 ^ h)) :
    ∃ S' σ', X2_goOn n τ S1 = some S' ∧ X8_goOn n σ1 (nI h) = some σ' ∧ mvd n τ S σ S' σ' N m kd nx ot G M M' := by
  have m8 := hb.2.2.2.1
  have hN4 := hb.1.1
  have hb1 : rB n τ S1 σ1 N m kd nx ot G := rB_congr (S := S) (σ := σ) (fun c q1 _ => S1c c q1) (S1f 1 (by omega)) (S1f 2 (by omega)) (fun c q1 q2 => σc c (by omega) (by omega)) (σf 3 (by omega)) (σf 4 (by omega)) hb
  obtain ⟨f, s2, g, s3, d1, d2, d3, d4, d5, d6, d7⟩ := fin1 n hn hh hb1 hw1 ne1 (fun j h1 h2 => by rw [σo j h2 (by omega)]; exact hz j h1 h2) hp (fun j hj hjh => rHD_congr (S := S) (σ := σ) (by omega) (S1o j hj hjh) (fun i hi => σo _ (by omega) (by omega)) (hq.1 j hj)) h15
  refine ⟨_, _, d1, d2, d3, d4, rfl, d5, ?_, hM, fun B hB hc => ?_, fun c hc => ?_, fun k hk => ?_, fun c h1 h2 => ?_, fun k hk => ?_, ?_⟩
  · refine sumF_lt m (fun j hj => ?_) ⟨h, hh, ?_⟩
    · by_cases e : j = h
      · subst e
        rw [ph_act hN4 ha]
        omega
      · rw [d6 j hj e, ph_congr (S := S) (S' := S1) (S1o j hj e 0 (by omega)) (S1o j hj e 1 (by omega))]
        exact Nat.le_refl _
    · rw [ph_act hN4 ha]
      exact d7
  · exact hclk B hB hc
  · rw [sC_app, if_neg (by omega)]
    unfold stS
    rw [sC_app, if_neg (by omega), sC_app, if_neg (by omega)]
    exact S1c c hc
  · show (match Nat.beq k 15 with | true => _ | false => S1 0 k) = _
    rw [show Nat.beq k 15 = false from Bool.eq_false_iff.mpr (fun q => by have := Nat.eq_of_beq_eq_true q; omega)]
    exact S1f k (by omega)
  · unfold stM
    rw [sC_app, if_neg (by omega), sC_app, if_neg (by omega)]
    exact σc c h1 h2
  · exact σf k hk
  · exact hany
theorem goOn_none (n : Nat) (hn : 2200 < n) {τ : Nat → Int64} {S : am_M} {m : Nat} (m8 : m ≤ 8) (hSm : S 0 1 = nI m) (h15 : S 0 15 = 0) : X2_goOn n τ S = some (sC S 0 (am_u (S 0) 15 0)) := by
  have loop : ∀ (k i K : Nat), i + k = m → k < K → X2_goOn_L2 n τ K S (nI i) = some (sC S 0 (am_u (S 0) 15 0)) := by
    intro k
    induction k with
    | zero =>
      intro i K hi hK
      obtain ⟨K, rfl⟩ : ∃ J, K = J + 1 := ⟨K - 1, by omega⟩
      simp only [X2_goOn_L2, X2_goOn_B2]
      rw [hSm, if_pos (by rw [pu_le (by omega) (by omega)]; omega)]
    | succ k ih =>
      intro i K hi hK
      obtain ⟨K, rfl⟩ : ∃ J, K = J + 1 := ⟨K - 1, by omega⟩
      simp only [X2_goOn_L2, X2_goOn_B2, X2_goOn_J43]
      rw [hSm, if_neg (by rw [pu_le (by omega) (by omega)]; omega), h15, ← nI_0, if_neg (fun q => by
        have := (bit_get 0 (by omega) i (by omega)).mp q
        rw [Nat.zero_testBit] at this
        exact absurd this (by decide)), nI_1, nI_0]
      exact ih (i + 1) K (by omega) (by omega)
  exact loop m 0 n (by omega) (by omega)
/-- the HAND stopped: nobody goes on -/
theorem fin0m (n : Nat) (hn : 2200 < n) {τ : Nat → Int64} {S σ S1 σ1 : am_M} {N m h t M M' : Nat} {kd nx ot : Nat → Nat} {G : Nat → Nat → List Int32} (hh : h < m) (hb : rB n τ S σ N m kd nx ot G) (hq : rQ S σ N m kd G M) (hz : zr σ m) (ha : act S σ N m kd G h t)
    (S1c : ∀ c, 11 ≤ c → S1 c = S c) (S1f : ∀ k, k < 12 ∨ 15 < k → S1 0 k = S 0 k) (S1o : ∀ j, j < m → j ≠ h → ∀ i, i < 13 → S1 1 (13 * j + i) = S 1 (13 * j + i))
    (σc : ∀ c, c ≠ 0 → c < 15 ∨ 20 < c → σ1 c = σ c) (σf : ∀ k, k < 40 ∨ 42 < k → σ1 0 k = σ 0 k) (σo : ∀ x, x < 64 → ¬ (8 * h ≤ x ∧ x < 8 * h + 8) → σ1 15 x = σ 15 x)
    (hw1 : rW (am_sub S1 2) σ1 M') (ne1 : ∀ k, k < M' → σ1 15 (65 + 6 * k + 0) ≠ σ1 15 (65 + 6 * k + 1)) (hM : M' ≤ M + 1) (hclk : ∀ B, B ≤ 1000000 → rClk S σ M B → rClk S1 σ1 M' (B + 1000)) (hany : anyR S1 σ1 m N kd) (hp : rHD S1 σ1 N m kd G h) (hps : t < ph S1 N h) (h15 : S1 0 15 = 0) :
    ∃ S', X2_goOn n τ S1 = some S' ∧ mvd n τ S σ S' σ1 N m kd nx ot G M M' := by
  have m8 := hb.2.2.2.1
  have hN4 := hb.1.1
  have hb1 : rB n τ S1 σ1 N m kd nx ot G := rB_congr (S := S) (σ := σ) (fun c q1 _ => S1c c q1) (S1f 1 (by omega)) (S1f 2 (by omega)) (fun c q1 q2 => σc c (by omega) (by omega)) (σf 3 (by omega)) (σf 4 (by omega)) hb
  have scc : ∀ c, c ≠ 0 → (sC S1 0 (am_u (S1 0) 15 0)) c = S1 c := fun c hc => by rw [sC_app, if_neg hc]
  refine ⟨_, goOn_none n hn m8 hb1.2.2.2.2.1 h15, ?_, ⟨fun j hj => ?_, ?_, ne1⟩, rfl, fun j h1 h2 => ?_, ?_, hM, fun B hB hc => ?_, fun c hc => ?_, fun k hk => ?_, fun c h1 h2 => ?_, fun k hk => ?_, ?_⟩
  · exact rB_congr (S := S1) (σ := σ1) (fun c q1 q2 => scc c (by omega)) rfl rfl (fun _ _ _ => rfl) rfl rfl hb1
  · refine rHD_congr (S := S1) (σ := σ1) (by omega) (fun _ _ => rfl) (fun _ _ => rfl) ?_
    by_cases e : j = h
    · subst e; exact hp
    · exact rHD_congr (S := S) (σ := σ) (by omega) (S1o j hj e) (fun i hi => σo _ (by omega) (by omega)) (hq.1 j hj)
  · refine rW_congr (σw := am_sub S1 2) (σ := σ1) (fun c hc => ?_) (fun j hj => rfl) hw1
    exact scc (2 + c) (by omega)
  · rw [σo j h2 (by omega)]
    exact hz j h1 h2
  · refine sumF_lt m (fun j hj => ?_) ⟨h, hh, ?_⟩
    · by_cases e : j = h
      · subst e
        rw [ph_act hN4 ha]
        exact Nat.le_of_lt hps
      · rw [ph_congr (S := S) (S' := sC S1 0 (am_u (S1 0) 15 0)) (S1o j hj e 0 (by omega)) (S1o j hj e 1 (by omega))]
        exact Nat.le_refl _
    · rw [ph_act hN4 ha]
      exact hps
  · exact hclk B hB hc
  · rw [scc c (by omega)]
    exact S1c c hc
  · show (match Nat.beq k 15 with | true => _ | false => S1 0 k) = _
    rw [show Nat.beq k 15 = false from Bool.eq_false_iff.mpr (fun q => by have := Nat.eq_of_beq_eq_true q; omega)]
    exact S1f k (by omega)
  · exact σc c h1 h2
  · exact σf k hk
  · exact hany
/-- how long a CLOCK waits -/
def dl (a x : Int32) : Int32 := if x - a ≤ 0 then 0 else x - a
theorem upd_self {f : Nat → Int32} {i : Nat} : upd f i (f i) = f := by
  funext k
  unfold upd
  by_cases h : k = i
  · rw [if_pos h, h]
  · rw [if_neg h]
theorem raise_eq {S : am_M} {h : Nat} {x : Int32} (hh : h < 8) : X2_raise S (nI h) x = some (sC (sC S 8 (upd (S 8) h (S 8 h + dl (S 8 h) x))) 9 (upd (S 9) h (S 9 h + dl (S 8 h) x))) := by
  unfold X2_raise X2_tick dl
  rw [jat_nI (by omega) (by omega)]
  by_cases c : x - S 8 h ≤ 0
  · rw [if_pos c, if_pos c, Int32.add_zero, Int32.add_zero, upd_self, upd_self, sC_self, sC_self]
  · rw [if_neg c, if_neg c]
    dsimp only [Option.bind]
    rw [jput_nI (by omega) (by omega), jat_nI (by omega) (by omega), jput_nI (by omega) (by omega)]
theorem upTo_eq {σ : am_M} {h : Nat} {x : Int32} (hh : h < 8) : X8_upTo σ (nI h) x = some (sC (sC σ 17 (upd (σ 17) h (σ 17 h + dl (σ 17 h) x))) 18 (upd (σ 18) h (σ 18 h + dl (σ 17 h) x))) := by
  unfold X8_upTo
  rw [if_neg (pu_g (n := 8) (by omega) (by omega)), if_neg (pu_g (n := 8) (by omega) (by omega)), if_neg (pu_g (n := 8) (by omega) (by omega)), if_neg (pu_g (n := 8) (by omega) (by omega)), if_neg (pu_g (n := 8) (by omega) (by omega)), nI_clamp (by omega)]
  have e : J9_max_7cf53 0 (x - σ 17 h) = dl (σ 17 h) x := by
    unfold J9_max_7cf53 dl
    by_cases c : x - σ 17 h ≤ 0
    · rw [if_pos c, if_neg (Int32.not_lt.mpr c)]
    · rw [if_neg c, if_pos (Int32.not_le.mp c)]
  rw [e]
theorem sub_toInt {a x : Nat} (ha : a < 2 ^ 30) (hx : x < 2 ^ 30) : (nI x - nI a).toInt = (x : Int) - a := by
  rw [Int32.toInt_sub, nI_toInt (by omega), nI_toInt (by omega)]
  exact Int.bmod_eq_of_le (by omega) (by omega)
theorem dl_nI {a x : Nat} (ha : a < 2 ^ 30) (hx : x < 2 ^ 30) : nI a + dl (nI a) (nI x) = nI (max a x) := by
  unfold dl
  have h1 := sub_toInt ha hx
  by_cases h : a < x
  · rw [if_neg (by rw [Int32.le_iff_toInt_le, h1, show (0 : Int32).toInt = 0 by decide]; omega)]
    have e : nI x - nI a = nI (x - a) := by
      rw [← Int32.toInt_inj, h1, nI_toInt (by omega)]
      omega
    rw [e, nI_add]
    congr 1
    omega
  · rw [if_pos (by rw [Int32.le_iff_toInt_le, h1, show (0 : Int32).toInt = 0 by decide]; omega), Int32.add_zero]
    congr 1
    omega
theorem max_nI {a b : Nat} (ha : a < 2 ^ 31) (hb : b < 2 ^ 31) : J9_max_7cf53 (nI a) (nI b) = nI (max a b) := by
  unfold J9_max_7cf53
  by_cases h : a < b
  · rw [if_pos (by rw [pu_lt ha hb]; exact h)]
    congr 1
    omega
  · rw [if_neg (by rw [pu_lt ha hb]; exact h)]
    congr 1
    omega
