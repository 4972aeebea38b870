/-! THE LAW'S CASES: what may be cut -/
theorem f1b : ∀ i, i < 64 → 1 ≤ i → (1#64).getLsbD i = false := by decide
theorem lu_bit (x : Int64) {t : Nat} (ht : t < 64) : (am_lushr x (nI t)) &&& 1 = if x.toBitVec.getLsbD t = true then 1 else 0 := by
  have e : ((am_lushr x (nI t)) &&& 1).toBitVec = if x.toBitVec.getLsbD t = true then 1#64 else 0#64 := by
    show (am_lushr x (nI t)).toBitVec &&& 1#64 = _
    rw [lushr_bv x ht]
    apply BitVec.eq_of_getLsbD_eq_iff.mpr
    intro i hi
    rw [BitVec.getLsbD_and, BitVec.getLsbD_ushiftRight]
    by_cases h0 : i = 0
    · subst h0
      rw [Nat.add_zero]
      by_cases q : x.toBitVec.getLsbD t = true
      · rw [if_pos q, q]; rfl
      · rw [if_neg q, Bool.eq_false_iff.mpr q]; rfl
    · rw [f1b i hi (by omega), Bool.and_false]
      by_cases q : x.toBitVec.getLsbD t = true
      · rw [if_pos q, f1b i hi (by omega)]
      · rw [if_neg q, BitVec.getLsbD_zero]
  apply Int64.toBitVec_inj.mp
  rw [e]
  split <;> rfl
theorem ilo_bit (S : am_M) (x : Int64) {t : Nat} (ht : t < 64) : X2_isLeftOut S (fun _ => x) (nI t) = x.toBitVec.getLsbD t := by
  unfold X2_isLeftOut
  rw [lu_bit x ht]
  by_cases q : x.toBitVec.getLsbD t = true
  · rw [if_pos q, if_pos (lgz.mpr rfl), q]
  · rw [if_neg q, if_neg (fun e => absurd (lgz.mp e) (by decide)), Bool.eq_false_iff.mpr q]
theorem lshl_bit (x : Int64) {s t : Nat} (hs : s < 64) (ht : t < 64) : (x ||| am_lshl 1 (nI s)).toBitVec.getLsbD t = (x.toBitVec.getLsbD t || decide (t = s)) := by
  have e : (am_lshl 1 (nI s)).toBitVec = 1#64 <<< s := by
    unfold am_lshl
    show 1#64 <<< (((nI s).toInt64 &&& 63).toBitVec.smod 64#64).toNat = _
    rw [amt_a s hs]
  show (x.toBitVec ||| (am_lshl 1 (nI s)).toBitVec).getLsbD t = _
  rw [e, BitVec.getLsbD_or, BitVec.getLsbD_shiftLeft]
  congr 1
  by_cases q : t < s
  · rw [decide_eq_true q, decide_eq_false (show ¬ t = s by omega)]
    simp
  · rw [decide_eq_false q, decide_eq_true ht]
    by_cases z : t = s
    · rw [z, Nat.sub_self, decide_eq_true rfl]; rfl
    · rw [f1b (t - s) (by omega) (by omega), decide_eq_false z, Bool.and_false]
section CUT
variable {n c L : Nat} {xs : Nat → Int32} {kont : (Nat → Nat) → am_M → (Nat → Int64) → (Nat → Int64) → am_M → Int32 → Option Bool} {χ : Nat → Nat} {σ : am_M} {τ o : Nat → Int64} {ρ : am_M} {k : Nat}
/-- which STEPS are left out so far -/
def cO (ρ R : am_M) (N : Nat) (kd : Nat → Nat) (out : Int64) (s : Nat) : Prop := (∀ t, t < 40 → (R 14 t = 0 ∧ out.toBitVec.getLsbD t = false) ∨ (R 14 t = 1 ∧ t < s ∧ t < N ∧ kd t ≠ 10 ∧ out.toBitVec.getLsbD t = true)) ∧ ∀ t, 40 ≤ t → R 14 t = ρ 14 t
theorem cO_out {R : am_M} {N s : Nat} {kd : Nat → Nat} {out : Int64} (hN : N ≤ 40) (h : cO ρ R N kd out s) : rOut (fun _ => out) R N kd := by
  intro t ht
  rcases h.1 t (by omega) with ⟨q1, q2⟩ | ⟨q1, q2, q3, q4, q5⟩
  · exact Or.inl ⟨q1, fun S => (ilo_bit S out (by omega)).trans q2⟩
  · exact Or.inr ⟨q1, q4, fun S => (ilo_bit S out (by omega)).trans q5⟩
theorem kind_nI {F H : am_M} {N m x y s : Nat} {kd nx ot : Nat → Nat} {G : Nat → Nat → List Int32} {D : Nat → Int32 → Int64 → VT} (h : hS n F H σ ρ N m x y kd nx ot G D) (hs : s < N) : X3_kindOf (am_sub σ 18) (nI s) = nI (kd s) := by
  obtain ⟨s1, s2, s3, s4⟩ := scr_at h
  unfold X3_kindOf
  rw [show (am_sub σ 18) 0 7 = nI N from s2, if_neg (fun q => pu_g (n := s + 1) (by omega) (by omega) (Or.inl q)), if_neg (by rw [pu_le (by omega) (by omega)]; omega)]
  show jat 40 (σ 19) (nI s) = _
  rw [jat_nI (by omega) (by omega), (s4 s hs).2.1]
theorem cutfin (hn : 2200 < n) {N : Nat} (hN : N ≤ 40) {a : Int32} : ∀ (d s K : Nat) (R : am_M), s + d = N → d < K → R 4 0 = nI N → ∃ R', X8_cut_L103 n K R a (nI s) = some (a, sC R' 0 (am_u (R' 0) 56 (R' 0 8))) ∧ (∀ c, c ≠ 14 → c ≠ 27 → R' c = R c) ∧ (∀ t, t < s → R' 27 t = R 27 t) ∧ (∀ t, s ≤ t → t < N → (R' 27 t = if R 14 t = 0 then 1 else 0) ∧ R' 14 t = 0) ∧ ∀ t, t < s ∨ N ≤ t → R' 14 t = R 14 t := by
  intro d
  induction d with
  | zero =>
    intro s K R hs hK h4
    obtain ⟨K, rfl⟩ : ∃ J, K = J + 1 := ⟨K - 1, by omega⟩
    refine ⟨R, ?_, fun _ _ _ => rfl, fun _ _ => rfl, fun t h1 h2 => by omega, fun _ _ => rfl⟩
    simp only [X8_cut_L103, X8_cut_B103]
    rw [show R 4 (0 : Int32).toNatClampNeg = nI N from h4, if_pos (by rw [pu_le (by omega) (by omega)]; omega)]
  | succ d ih =>
    intro s K R hs hK h4
    obtain ⟨K, rfl⟩ : ∃ J, K = J + 1 := ⟨K - 1, by omega⟩
    obtain ⟨w, hw⟩ : ∃ w : Int32, w = if R 14 s = 0 then 1 else 0 := ⟨_, rfl⟩
    have w01 : w = 0 ∨ w = 1 := by
      rw [hw]
      split
      · exact Or.inr rfl
      · exact Or.inl rfl
    obtain ⟨R1, hR1⟩ : ∃ R1, R1 = sC (sC R 14 (upd (R 14) s 0)) 27 (upd (R 27) s w) := ⟨_, rfl⟩
    have e : X8_cut_L103 n (K + 1) R a (nI s) = X8_cut_L103 n K R1 a (nI (s + 1)) := by
      have j : ∀ z : Int32, z = 0 ∨ z = 1 → X8_cut_J132 n (X8_cut_L103 n K) R a (nI s) z (nI s) = X8_cut_L103 n K (sC (sC R 14 (upd (R 14) s 0)) 27 (upd (R 27) s z)) a (nI (s + 1)) := fun z hz => by
        unfold X8_cut_J132
        rw [if_neg (pu_g (n := 40) (by omega) (by omega)), if_neg (fun q => q hz), if_neg (pu_g (n := 40) (by omega) (by omega)), nI_clamp (by omega), nI_1]
      simp only [X8_cut_L103, X8_cut_B103]
      rw [show R 4 (0 : Int32).toNatClampNeg = nI N from h4, if_neg (by rw [pu_le (by omega) (by omega)]; omega), if_neg (pu_g (n := 40) (by omega) (by omega)), nI_clamp (by omega), hR1, j 1 (Or.inr rfl), j 0 (Or.inl rfl), hw]
      by_cases q : R 14 s = 0
      · rw [if_pos q, if_pos q]
      · rw [if_neg q, if_neg q]
    have c14 : R1 14 = upd (R 14) s 0 := by rw [hR1]
    have c27 : R1 27 = upd (R 27) s w := by rw [hR1]
    obtain ⟨R', i1, i2, i3, i4, i5⟩ := ih (s + 1) K R1 (by omega) (by omega) (by rw [hR1]; exact h4)
    refine ⟨R', e.trans i1, fun c q1 q2 => (i2 c q1 q2).trans (by rw [hR1, sC_ne q2, sC_ne q1]), fun t ht => ?_, fun t h1 h2 => ?_, fun t ht => ?_⟩
    · rw [i3 t (by omega), c27, upd_ne (by omega)]
    · by_cases q : t = s
      · rw [q, i3 s (by omega), c27, upd_eq, hw, i5 s (Or.inl (by omega)), c14, upd_eq]
        exact ⟨rfl, rfl⟩
      · obtain ⟨k1, k2⟩ := i4 t (by omega) h2
        rw [k1, k2, c14, upd_ne q]
        exact ⟨rfl, rfl⟩
    · rw [i5 t (by omega), c14, upd_ne (by omega)]
theorem cut_loop (hn : 2200 < n) {F H : am_M} {N m x y tv : Nat} {kd nx ot : Nat → Nat} {G : Nat → Nat → List Int32} {D : Nat → Int32 → Int64 → VT} : ∀ (d s K K' : Nat) (χ : Nat → Nat) (σ : am_M) (τ : Nat → Int64) (R : am_M) (out : Int64) (a : Int32), s + d = N → d < K → d < K' → cI n F H χ σ τ ρ N m x y kd nx ot G D tv → am_chib χ = true → rX ρ R → cO ρ R N kd out s → R 0 4 = ρ 0 4 → σ 0 3 = ρ 0 4 → ∃ b χ' σ' τ' R' out', X7_cut_L39 n K σ τ χ out a (nI s) = some (b, sC σ' 0 (am_u (σ' 0) 10 1), upd64 τ' 0 out', χ') ∧ X8_cut_L25 n K' R a (nI s) = X8_cut_L103 n n R' b 0 ∧ cI n F H χ' σ' τ' ρ N m x y kd nx ot G D tv ∧ am_chib χ' = true ∧ rX ρ R' ∧ cO ρ R' N kd out' N ∧ R' 0 4 = ρ 0 4 ∧ σ' 0 = σ 0 := by
  intro d
  induction d with
  | zero =>
    intro s K K' χ σ τ R out a hs h1 h2 hC hb hX hO h4 h3
    obtain ⟨K, rfl⟩ : ∃ J, K = J + 1 := ⟨K - 1, by omega⟩
    obtain ⟨K', rfl⟩ : ∃ J, K' = J + 1 := ⟨K' - 1, by omega⟩
    obtain ⟨s1, s2, s3, s4⟩ := scr_at hC.1
    have es : s = N := by omega
    subst es
    refine ⟨a, χ, σ, τ, R, out, ?_, ?_, hC, hb, hX, hO, h4, rfl⟩
    · simp only [X7_cut_L39, X7_cut_B39]
      rw [s2, if_pos (Int32.le_refl _)]
    · simp only [X8_cut_L25, X8_cut_B25]
      rw [show R 4 (0 : Int32).toNatClampNeg = nI s by rw [hX.1 4 (by omega) (by omega)]; exact s3, if_pos (Int32.le_refl _)]
  | succ d ih =>
    intro s K K' χ σ τ R out a hs h1 h2 hC hb hX hO h4 h3
    obtain ⟨K, rfl⟩ : ∃ J, K = J + 1 := ⟨K - 1, by omega⟩
    obtain ⟨K', rfl⟩ : ∃ J, K' = J + 1 := ⟨K' - 1, by omega⟩
    obtain ⟨s1, s2, s3, s4⟩ := scr_at hC.1
    have hk10 := (s4 s (by omega)).1
    have r4 : R 4 (0 : Int32).toNatClampNeg = nI N := by rw [hX.1 4 (by omega) (by omega)]; exact s3
    have r6 : R 6 s = nI (kd s) := by rw [hX.1 6 (by omega) (by omega)]; exact (s4 s (by omega)).2.2
    have le : ¬ nI N ≤ nI s := by rw [pu_le (by omega) (by omega)]; omega
    have g80 : ¬ (nI s < 0 ∨ 80 ≤ s) := pu_gn (n := 80) (by omega) (by omega)
    have g40 : ¬ (nI s < 0 ∨ 40 ≤ s) := pu_gn (n := 40) (by omega) (by omega)
    simp only [X7_cut_L39, X7_cut_B39, X8_cut_L25, X8_cut_B25, X7_cut_J116, X8_cut_J95]
    rw [s2, if_neg le, kind_nI hC.1 (by omega), r4, if_neg le, nI_clamp (by omega), if_neg g80, if_neg g40, r6, nI_1]
    by_cases c10 : nI (kd s) = 10
    · rw [if_pos c10, if_pos c10]
      exact ih (s + 1) K K' χ σ τ R out a (by omega) (by omega) (by omega) hC hb hX ⟨fun t ht => (hO.1 t ht).imp id (fun q => ⟨q.1, by omega, q.2.2⟩), hO.2⟩ h4 h3
    · rw [if_neg c10, if_neg c10]
      have kd10 : kd s ≠ 10 := fun q => c10 (by rw [q]; rfl)
      obtain ⟨o2, ho2⟩ : ∃ o2, o2 = out ||| am_lshl 1 (nI s) := ⟨_, rfl⟩
      obtain ⟨R1, hR1⟩ : ∃ R1, R1 = sC R 14 (upd (R 14) s 1) := ⟨_, rfl⟩
      have R114 : R1 14 = upd (R 14) s 1 := by rw [hR1]
      have bits : ∀ t, t < 40 → o2.toBitVec.getLsbD t = (out.toBitVec.getLsbD t || decide (t = s)) := fun t ht => by rw [ho2]; exact lshl_bit out (by omega) (by omega)
      have zs : R 14 s = 0 ∧ out.toBitVec.getLsbD s = false := by
        rcases hO.1 s (by omega) with q | q
        · exact q
        · exact absurd q.2.1 (by omega)
      have in2 : ∀ f : Nat → Int32, f s = 1 → (∀ t, t ≠ s → f t = R 14 t) → cO ρ (sC R1 14 f) N kd o2 (s + 1) := fun f f1 f2 => by
        refine ⟨fun t ht => ?_, fun t ht => ?_⟩
        · show (f t = 0 ∧ _) ∨ (f t = 1 ∧ _)
          by_cases q : t = s
          · right
            rw [q, f1, bits s (by omega), decide_eq_true rfl, Bool.or_true]
            exact ⟨rfl, by omega, by omega, kd10, rfl⟩
          · rw [f2 t q, bits t ht, decide_eq_false q, Bool.or_false]
            exact (hO.1 t ht).imp id (fun z => ⟨z.1, by omega, z.2.2⟩)
        · show f t = _
          rw [f2 t (by omega)]
          exact hO.2 t ht
      have in1 : ∀ f : Nat → Int32, f s = 0 → (∀ t, t ≠ s → f t = R 14 t) → cO ρ (sC R1 14 f) N kd out (s + 1) := fun f f1 f2 => by
        refine ⟨fun t ht => ?_, fun t ht => ?_⟩
        · show (f t = 0 ∧ _) ∨ (f t = 1 ∧ _)
          by_cases q : t = s
          · left
            rw [q, f1]
            exact ⟨rfl, zs.2⟩
          · rw [f2 t q]
            exact (hO.1 t ht).imp id (fun z => ⟨z.1, by omega, z.2.2⟩)
        · show f t = _
          rw [f2 t (by omega)]
          exact hO.2 t ht
      have cc : ∀ (A B : am_M) (x : Int64) (q : Nat), A 14 = B 14 → cO ρ A N kd x q → cO ρ B N kd x q := fun A B x q e h => by
        unfold cO at h ⊢
        rw [← e]
        exact h
      have hO2 : cO ρ R1 N kd o2 (s + 1) := cc _ _ _ _ (by rw [R114]) (in2 (upd (R 14) s 1) upd_eq (fun t q => upd_ne q))
      have hX1 : rX ρ R1 := ⟨fun c q1 q2 => by rw [hR1, sC_ne (by omega)]; exact hX.1 c q1 q2, fun z q1 q2 q3 => by rw [hR1]; exact hX.2.1 z q1 q2 q3, by rw [hR1]; exact hX.2.2⟩
      obtain ⟨P', τ', j, R', b, y1, y2, y3, y4, y5, y6, y6', y7, y8, y9, y10, y11, y12⟩ := both_go hn hC hX1 (cO_out s1 hO2) (room := ρ 0 4) (by rw [hR1]; exact h4)
      have y4' : R' 0 4 = ρ 0 4 := y12.trans (by rw [hR1]; exact h4)
      have y14 : R' 14 = upd (R 14) s 1 := y11.trans R114
      have lock : X4_locks (am_sg (am_pg σ 26 8 P') 26) = true → ∃ g, X8_go n R1 = some (true, R') ∧ X8_someLocks n R' = some (true, sC R' 15 g) ∧ (∃ M', M' ≤ 320 ∧ g 64 = nI M') := fun z => by
        obtain ⟨z1, z2⟩ := y9.mp z
        obtain ⟨g, g1, g2⟩ := y8 z1
        exact ⟨g, by rw [y7, decide_eq_true z1], by rw [g1, z2], g2⟩
      have free : ¬ X4_locks (am_sg (am_pg σ 26 8 P') 26) = true → (X8_go n R1 = some (false, R')) ∨ ∃ g, X8_go n R1 = some (true, R') ∧ X8_someLocks n R' = some (false, sC R' 15 g) ∧ (∃ M', M' ≤ 320 ∧ g 64 = nI M') := fun z => by
        by_cases z1 : (am_pg σ 26 8 P') 26 11 = 0
        · obtain ⟨g, g1, g2⟩ := y8 z1
          refine Or.inr ⟨g, by rw [y7, decide_eq_true z1], ?_, g2⟩
          rw [g1]
          cases b with
          | false => rfl
          | true => exact absurd (y9.mpr ⟨z1, rfl⟩) z
        · exact Or.inl (by rw [y7, decide_eq_false z1])
      have h3' : (am_pg σ 26 8 P') 0 3 = ρ 0 4 := by rw [y4]; exact h3
      have kJ : ∀ (X : am_M) (z : Int32), z = 0 ∨ z = 1 → X8_cut_J75 n (X8_cut_L25 n K') X a (nI s) z = X8_cut_L25 n K' (sC X 14 (upd (X 14) s z)) (if z = 0 then a + 1 else a) (nI (s + 1)) := fun X z hz => by
        unfold X8_cut_J75 X8_cut_J93 X8_cut_J95
        rw [if_neg (pu_g (n := 40) (by omega) (by omega)), if_neg (fun q => q hz), nI_clamp (by omega), Int32.add_zero, nI_1]
        by_cases q : z = 0
        · rw [if_pos q, if_pos q]
        · rw [if_neg q, if_neg q]
      rw [h3, ← ho2, ← hR1, y1]
      dsimp only [Option.bind]
      by_cases lk : X4_locks (am_sg (am_pg σ 26 8 P') 26) = true
      · obtain ⟨g, l1, l2, l3⟩ := lock lk
        rw [if_pos lk, l1]
        dsimp only
        rw [if_pos rfl, l2]
        dsimp only
        rw [if_pos rfl, kJ _ 1 (Or.inr rfl), if_neg (by decide)]
        have e14 : (sC R' 15 g) 14 = upd (R 14) s 1 := y14
        obtain ⟨b', χ', σ', τ'', R'', out', i1, i2, i3, i4, i5, i6, i7, i8⟩ := ih (s + 1) K K' _ _ _ (sC (sC R' 15 g) 14 (upd ((sC R' 15 g) 14) s 1)) o2 a (by omega) (by omega) (by omega) y2 y3 ⟨fun c q1 q2 => by rw [sC_ne (by omega), sC_ne (by omega)]; exact y10.1 c q1 q2, y10.2.1, l3⟩ (cc (sC R1 14 (upd ((sC R' 15 g) 14) s 1)) _ _ _ rfl (in2 _ upd_eq (fun t q => by rw [upd_ne q, e14, upd_ne q]))) y4' h3'
        exact ⟨b', χ', σ', τ'', R'', out', i1, i2, i3, i4, i5, i6, i7, i8.trans y4⟩
      · rw [if_neg lk]
        rcases free lk with l1 | ⟨g, l1, l2, l3⟩
        · rw [l1]
          dsimp only
          rw [if_neg Bool.false_ne_true]
          unfold X8_cut_J74
          rw [kJ _ 0 (Or.inl rfl), if_pos rfl]
          obtain ⟨b', χ', σ', τ'', R'', out', i1, i2, i3, i4, i5, i6, i7, i8⟩ := ih (s + 1) K K' _ _ _ (sC R' 14 (upd (R' 14) s 0)) out (a + 1) (by omega) (by omega) (by omega) y2 y3 ⟨fun c q1 q2 => by rw [sC_ne (by omega)]; exact y10.1 c q1 q2, y10.2.1, y10.2.2⟩ (cc (sC R1 14 (upd (R' 14) s 0)) _ _ _ rfl (in1 _ upd_eq (fun t q => by rw [upd_ne q, y14, upd_ne q]))) y4' h3'
          exact ⟨b', χ', σ', τ'', R'', out', i1, i2, i3, i4, i5, i6, i7, i8.trans y4⟩
        · rw [l1]
          dsimp only
          rw [if_pos rfl, l2]
          dsimp only
          rw [if_neg Bool.false_ne_true]
          unfold X8_cut_J74
          rw [kJ _ 0 (Or.inl rfl), if_pos rfl]
          have e14 : (sC R' 15 g) 14 = upd (R 14) s 1 := y14
          obtain ⟨b', χ', σ', τ'', R'', out', i1, i2, i3, i4, i5, i6, i7, i8⟩ := ih (s + 1) K K' _ _ _ (sC (sC R' 15 g) 14 (upd ((sC R' 15 g) 14) s 0)) out (a + 1) (by omega) (by omega) (by omega) y2 y3 ⟨fun c q1 q2 => by rw [sC_ne (by omega), sC_ne (by omega)]; exact y10.1 c q1 q2, y10.2.1, l3⟩ (cc (sC R1 14 (upd ((sC R' 15 g) 14) s 0)) _ _ _ rfl (in1 _ upd_eq (fun t q => by rw [upd_ne q, e14, upd_ne q]))) y4' h3'
          exact ⟨b', χ', σ', τ'', R'', out', i1, i2, i3, i4, i5, i6, i7, i8.trans y4⟩
theorem hS_27 {F H σ ρ ρ' : am_M} {N m x y : Nat} {kd nx ot : Nat → Nat} {G : Nat → Nat → List Int32} {D : Nat → Int32 → Int64 → VT} (h1 : ∀ c, c ≠ 0 → c ≠ 27 → ρ' c = ρ c) (h0 : ∀ k, k ≠ 56 → ρ' 0 k = ρ 0 k) (h : hS n F H σ ρ N m x y kd nx ot G D) : hS n F H σ ρ' N m x y kd nx ot G D := by
  unfold hS okR at h ⊢
  rw [h1 14 (by omega) (by omega), h1 3 (by omega) (by omega), h1 15 (by omega) (by omega), h0 3 (by omega), h0 4 (by omega), h0 5 (by omega), h0 6 (by omega), h0 10 (by omega), h0 20 (by omega), h0 35 (by omega)]
  exact ⟨h.1, h.2.1, h.2.2.1, fun c q1 q2 => by rw [h1 c (by omega) (by omega)]; exact h.2.2.2.1 c q1 q2, h.2.2.2.2⟩
theorem case12 (hn : 2200 < n) (hk : KT n c kont (nI k)) (h : hRel n c χ σ τ ρ) : L_c12 n L xs kont χ σ τ o ρ (nI k) = some true := by
  have hch := hRel_ch h
  have now := hRel_now h
  obtain ⟨F, H, N, m, x, y, v, tv, kd, nx, ot, G, D, h1, h2, h3, h4, h5, h6⟩ := h
  have N4 : N ≤ 40 := h1.1.1
  have σ3 : σ 0 3 = ρ 0 4 := h1.2.2.2.2.2.2.2.2.2.2.1
  have z14 := h1.2.2.2.2.2.1
  obtain ⟨R0, hR0⟩ : ∃ R0, R0 = sC ρ 0 (am_u (ρ 0) 2 0) := ⟨_, rfl⟩
  have r2 : rX ρ R0 := by
    rw [hR0]
    exact ⟨fun c q1 q2 => sC_ne (by omega), fun z q1 q2 q3 => am_u_ne q1, now⟩
  have R014 : R0 14 = ρ 14 := by rw [hR0]
  have R04 : R0 0 4 = ρ 0 4 := by rw [hR0]
  have hO : cO ρ R0 N kd 0 0 := ⟨fun t ht => Or.inl ⟨by rw [R014]; exact z14 t ht, BitVec.getLsbD_zero⟩, fun t ht => by rw [R014]⟩
  obtain ⟨P', τ', j, R', b, y1, y2, y3, y4, y5, y6, y6', y7, y8, y9, y10, y11, y12⟩ := both_go hn ⟨h1, h2, h5, h6⟩ r2 (cO_out N4 hO) R04
  unfold L_c12 X7_cut X8_cut
  rw [σ3, y1, ← hR0, y7]
  dsimp only [Option.bind]
  by_cases lk : X4_locks (am_sg (am_pg σ 26 8 P') 26) = true
  · obtain ⟨z1, z2⟩ := y9.mp lk
    obtain ⟨g, g1, g2⟩ := y8 z1
    obtain ⟨b', χ', σ', τ'', R'', out', i1, i2, i3, i4, i5, i6, i7, i8⟩ := cut_loop hn (ρ := ρ) N 0 n n _ _ _ (sC R' 15 g) 0 0 (by omega) (by omega) (by omega) y2 y3 (rX_g y10 g2) ⟨fun t ht => Or.inl ⟨by show R' 14 t = 0; rw [y11, R014]; exact z14 t ht, BitVec.getLsbD_zero⟩, fun t ht => by show R' 14 t = _; rw [y11, R014]⟩ (y12.trans R04) (by rw [y4]; exact σ3)
    rw [nI_0] at i1 i2
    obtain ⟨R3, k1, k2, k3, k4, k5⟩ := cutfin (n := n) hn N4 (a := b') N 0 n R'' (by omega) (by omega) (by rw [i5.1 4 (by omega) (by omega)]; exact (scr_at h1).2.2.1)
    rw [nI_0] at k1
    rw [if_pos lk, i1, if_pos (decide_eq_true z1), g1, z2]
    dsimp only
    rw [if_pos rfl, i2, k1]
    dsimp only
    rw [if_neg (by rw [i4]; decide), if_pos rfl]
    refine hk _ _ _ _ _ ?_
    obtain ⟨ρm, hρm⟩ : ∃ ρm, ρm = sC (sC R3 27 (ρ 27)) 0 (am_u (R3 0) 56 (ρ 0 56)) := ⟨_, rfl⟩
    have c14 : R3 14 = ρ 14 := by
      funext t
      by_cases q : t < N
      · rw [(k4 t (Nat.zero_le _) q).2, z14 t (by omega)]
      · rw [k5 t (Or.inr (by omega))]
        by_cases q4 : t < 40
        · rcases i6.1 t q4 with w | w
          · rw [w.1, z14 t q4]
          · exact absurd w.2.2.1 q
        · exact i6.2 t (by omega)
    have rs : rSame ρ ρm := by
      refine ⟨fun c q1 q2 => ?_, fun z q1 q2 => ?_, ?_⟩
      · rw [hρm, sC_ne (by omega)]
        by_cases q : c = 27
        · rw [q]
        · rw [sC_ne q]
          by_cases q' : c = 14
          · rw [q']; exact c14
          · rw [k2 c q' q]
            exact i5.1 c q1 (by omega)
      · rw [hρm]
        show am_u (R3 0) 56 (ρ 0 56) z = _
        by_cases q : z = 56
        · rw [q]
        · rw [am_u_ne q, k2 0 (by omega) (by omega)]
          by_cases q4 : z = 4
          · rw [q4]; exact i7
          · exact i5.2.1 z q1 q4 q2
      · rw [hρm]
        show ∃ M', M' ≤ 320 ∧ R3 15 64 = nI M'
        rw [k2 15 (by omega) (by omega)]
        exact i5.2.2
    obtain ⟨ρ', hρ'⟩ : ∃ ρ', ρ' = sC R3 0 (am_u (R3 0) 56 (R3 0 8)) := ⟨_, rfl⟩
    rw [← hρ']
    have e1 : ∀ c, c ≠ 0 → c ≠ 27 → ρ' c = ρm c := fun c q1 q2 => by rw [hρ', hρm, sC_ne q1, sC_ne q1, sC_ne q2]
    have e0 : ∀ k, k ≠ 56 → ρ' 0 k = ρm 0 k := fun k q => by
      rw [hρ', hρm]
      show am_u (R3 0) 56 (R3 0 8) k = am_u (R3 0) 56 (ρ 0 56) k
      rw [am_u_ne q, am_u_ne q]
    have S1 := hS_same (σ' := sC σ' 0 (am_u (σ' 0) 10 1)) (fun k q => sC_ne (by omega)) (fun k q1 q2 => am_u_ne (by omega)) (rSm_of rs) i3.1
    have T1 := hTd_same rs h3
    have P1 := hPl_same (χ := χ') (χ' := χ') (σ := σ') (σ' := sC σ' 0 (am_u (σ' 0) 10 1)) rfl (show am_u (σ' 0) 10 1 9 = σ' 0 9 from am_u_ne (by omega)) (sg_eq0 (by omega) (fun k q => sC_ne q)) (rSm_of rs) i3.2.2.1
    have ρ8 : ρ' 0 8 = ρ 0 8 := (e0 8 (by omega)).trans (rs.2.1 8 (by omega) (by omega))
    refine ⟨F, H, N, m, x, y, v, tv, kd, nx, ot, G, D, hS_27 e1 e0 S1, ?_, ?_, ?_, ?_, i3.2.2.2⟩
    · have := i3.2.1
      unfold hRd at this ⊢
      rw [sg_eq0 (o := 26) (g := σ') (by omega) (fun k q => sC_ne q), show (sC σ' 0 (am_u (σ' 0) 10 1)) 26 = σ' 26 from rfl, show (upd64 τ'' 0 out') 26 = τ'' 26 by rw [upd64_app, if_neg (by omega)]]
      exact this
    · obtain ⟨t1, t2, t3, t4, t5, t6⟩ := T1
      refine ⟨t1, by rw [e0 7 (by omega)]; exact t2, t3, by rw [e0 8 (by omega)]; exact t4, by rw [e0 47 (by omega)]; exact t5, fun q => ?_⟩
      rw [e0 47 (by omega), e0 7 (by omega)] at q
      rw [e0 4 (by omega)]
      exact vT_congr (e1 25 (by omega) (by omega)) (e1 26 (by omega) (by omega)) (e0 51 (by omega)) (e0 52 (by omega)) (e0 53 (by omega)) (t6 q)
    · have e56 : ρ' 0 56 = ρ 0 8 := by
        rw [hρ']
        show R3 0 8 = ρ 0 8
        rw [k2 0 (by omega) (by omega)]
        exact i5.2.1 8 (by omega) (by omega) (by omega)
      refine ⟨Or.inr ⟨tv, Nat.le_refl _, by rw [e56]; exact h3.2.2.2.1⟩, Or.inr ⟨rfl, by rw [e56, ρ8], fun s hs => ?_⟩⟩
      rw [show (upd64 τ'' 0 out') 0 = out' by rw [upd64_app, if_pos rfl], lu_bit out' (show s < 64 by omega), hρ', show (sC R3 0 (am_u (R3 0) 56 (R3 0 8))) 27 = R3 27 from rfl, (k4 s (Nat.zero_le _) hs).1]
      rcases i6.1 s (by omega) with ⟨w1, w2⟩ | ⟨w1, w2, w3, w4, w5⟩
      · left
        rw [if_pos w1, w2, if_neg Bool.false_ne_true]
        exact ⟨rfl, rfl⟩
      · right
        rw [if_neg (by rw [w1]; decide), w5, if_pos rfl]
        exact ⟨rfl, by decide⟩
    · obtain ⟨⟨q, q1, q2⟩, P2⟩ := P1
      refine ⟨⟨q, q1, by rw [e0 58 (by omega)]; exact q2⟩, ?_⟩
      rw [e0 57 (by omega), e0 3 (by omega), e0 58 (by omega), e0 8 (by omega)]
      rcases P2 with w | ⟨w1, w2, w3, w4, w5⟩
      · exact Or.inl w
      · exact Or.inr ⟨w1, w2, w3, w4, plI_congr (e1 28 (by omega) (by omega)) (e1 30 (by omega) (by omega)) (e1 31 (by omega) (by omega)) (e1 33 (by omega) (by omega)) (e1 34 (by omega) (by omega)) (e1 35 (by omega) (by omega)) (e0 60 (by omega)) (e0 68 (by omega)) w5⟩
  · have fin : ∀ R3, rX ρ R3 → R3 14 = ρ 14 → R3 0 4 = ρ 0 4 → kont (updN χ 27 ((am_gj 26 8 (χ 27)).getD j 0)) (am_pg σ 26 8 P') (am_pg τ 26 8 τ') o R3 (nI k + 6) = some true := fun R3 r3 r4 r5 => by
      refine hk _ _ _ _ _ (hRel_of y2 h3 h4 y4 y5 ⟨fun c q1 q2 => ?_, fun z q1 q2 => ?_, r3.2.2⟩)
      · by_cases q : c = 14
        · rw [q]; exact r4
        · exact r3.1 c q1 (by omega)
      · by_cases q : z = 4
        · rw [q]; exact r5
        · exact r3.2.1 z q1 q q2
    rw [if_neg lk]
    dsimp only
    rw [if_neg (by rw [y3]; decide)]
    by_cases z1 : (am_pg σ 26 8 P') 26 11 = 0
    · obtain ⟨g, g1, g2⟩ := y8 z1
      have hb : b = false := by
        cases b with
        | false => rfl
        | true => exact absurd (y9.mpr ⟨z1, rfl⟩) lk
      rw [if_pos (decide_eq_true z1), g1, hb]
      dsimp only
      rw [if_neg Bool.false_ne_true]
      dsimp only
      rw [if_pos rfl]
      exact fin _ (rX_g y10 g2) (y11.trans R014) (y12.trans R04)
    · rw [if_neg (by rw [decide_eq_true_eq]; exact z1)]
      dsimp only
      rw [if_pos rfl]
      exact fin _ y10 (y11.trans R014) (y12.trans R04)
end CUT
