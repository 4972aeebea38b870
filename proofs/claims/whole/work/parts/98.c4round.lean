/-! PLAYING: a round in both -/
/-- what follows the reference's MOVE -/
def rfMV (n : Nat) (kk : am_M → Int32 → Option (Int32 × am_M)) (R : am_M) (c h src : Int32) : Option (Int32 × am_M) := (X8_move n R h src).bind (fun q5 => if (q5 0 40) = (-1) then kk q5 c else (if (q5 0 59) < 0 ∨ 320 ≤ (q5 0 59).toNatClampNeg then none else kk (sC (sC q5 0 (am_u (q5 0) 59 ((q5 0 59) + 1))) 29 (upd (q5 29) (q5 0 59).toNatClampNeg (q5 0 41))) (c + 1)))
theorem rf_after (n : Nat) {k90 : am_M → Int32 → Int64 → Int32 → Int32 → Int32 → Option (Int32 × am_M)} {R : am_M} {l1 c h b x : Int32} {ch : Int64} : ∀ K, 0 < K → X8_run_L116 n k90 K R l1 ch c 1 h b x = k90 R l1 ch c 1 (h + 1) := by
  intro K hK
  obtain ⟨K, rfl⟩ : ∃ J, K = J + 1 := ⟨K - 1, by omega⟩
  simp only [X8_run_L116, X8_run_B116, X8_run_J131, X8_run_J207]
  rw [if_neg (show ¬ (1 : Int32) = 0 by decide)]
  split
  · split <;> rfl
  · split <;> rfl
theorem rf_turn (n : Nat) (hn : 2200 < n) {τ : Nat → Int64} {S R0 : am_M} {N m M h cnt : Nat} {kd nx ot : Nat → Nat} {G : Nat → Nat → List Int32} {l1 c : Int32} {ch : Int64} {bb : Bool} (hb : rB n τ S R0 N m kd nx ot G) (hq : rQ S R0 N m kd G M) (hh : h < m) (hcnt : cnt = if bb = true then m else 1) (k90 : am_M → Int32 → Int64 → Int32 → Int32 → Int32 → Option (Int32 × am_M)) : ∀ (d o K : Nat) (st : Nat → Int32), o + d = cnt → d + 1 < K →
    ((∀ p, o ≤ p → p < cnt → ¬ CN n S m M h (R0 0 35) (nI p)) ∧ ∃ st', X8_run_L116 n k90 K (sC R0 16 st) l1 ch c 0 (nI h) (b2i bb) (nI o) = k90 (sC R0 16 st') l1 ch c 0 (nI (h + 1))) ∨ (∃ p st', o ≤ p ∧ p < cnt ∧ CN n S m M h (R0 0 35) (nI p) ∧ (∀ q, o ≤ q → q < p → ¬ CN n S m M h (R0 0 35) (nI q)) ∧ X8_run_L116 n k90 K (sC R0 16 st) l1 ch c 0 (nI h) (b2i bb) (nI o) = rfMV n (fun R x => k90 R l1 ch x 1 (nI (h + 1))) (sC R0 16 st') c (nI h) (nI p)) := by
  have m8 := hb.2.2.2.1
  have m2 := hb.2.2.1
  have h3 := hb.2.2.2.2.2.1
  have hc8 : cnt ≤ m := by rw [hcnt]; split <;> omega
  intro d
  induction d with
  | zero =>
    intro o K st ho hK
    obtain ⟨K, rfl⟩ : ∃ J, K = J + 1 := ⟨K - 1, by omega⟩
    refine Or.inl ⟨fun p h1 h2 => by omega, st, ?_⟩
    have e : X8_run_L116 n k90 (K + 1) (sC R0 16 st) l1 ch c 0 (nI h) (b2i bb) (nI o) = X8_run_J131 n k90 (X8_run_L116 n k90 K) (sC R0 16 st) l1 ch c 0 (nI h) (b2i bb) (nI o) (nI cnt) (nI o) := by
      simp only [X8_run_L116, X8_run_B116, b2i_c]
      rw [show (sC R0 16 st) 0 3 = nI m from h3, hcnt]
      split <;> rfl
    rw [e]
    simp only [X8_run_J131, X8_run_J207]
    rw [if_pos (by rw [pu_le (by omega) (by omega)]; omega), nI_1]
  | succ d ih =>
    intro o K st ho hK
    obtain ⟨K, rfl⟩ : ∃ J, K = J + 1 := ⟨K - 1, by omega⟩
    have e : X8_run_L116 n k90 (K + 1) (sC R0 16 st) l1 ch c 0 (nI h) (b2i bb) (nI o) = X8_run_J131 n k90 (X8_run_L116 n k90 K) (sC R0 16 st) l1 ch c 0 (nI h) (b2i bb) (nI o) (nI cnt) (nI o) := by
      simp only [X8_run_L116, X8_run_B116, b2i_c]
      rw [show (sC R0 16 st) 0 3 = nI m from h3, hcnt]
      split <;> rfl
    obtain ⟨y, st', d1, d2⟩ := can_rf n hn hb hq hh (show o < m by omega) st
    by_cases hy : y = true
    · refine Or.inr ⟨o, st', Nat.le_refl _, by omega, d2.mp hy, fun q h1 h2 => by omega, ?_⟩
      rw [e]
      simp only [X8_run_J131, X8_run_J201]
      rw [if_neg (by rw [pu_le (by omega) (by omega)]; omega), if_pos True.intro, d1]
      dsimp only [Option.bind]
      rw [if_pos hy]
      unfold rfMV
      congr 1
      funext q5
      split
      · rw [rf_after n K (by omega), nI_1]
      · split
        · rfl
        · rw [rf_after n K (by omega), nI_1]
    · have hno : ¬ CN n S m M h (R0 0 35) (nI o) := fun q => hy (d2.mpr q)
      have e2 : X8_run_L116 n k90 (K + 1) (sC R0 16 st) l1 ch c 0 (nI h) (b2i bb) (nI o) = X8_run_L116 n k90 K (sC R0 16 st') l1 ch c 0 (nI h) (b2i bb) (nI (o + 1)) := by
        rw [e]
        simp only [X8_run_J131, X8_run_J201]
        rw [if_neg (by rw [pu_le (by omega) (by omega)]; omega), if_pos True.intro, d1]
        dsimp only [Option.bind]
        rw [if_neg hy, nI_1]
      rw [e2]
      rcases ih (o + 1) K st' (by omega) (by omega) with ⟨a1, a2⟩ | ⟨p, st2, a1, a2, a3, a4, a5⟩
      · refine Or.inl ⟨fun p h1 h2 => ?_, a2⟩
        by_cases z : p = o
        · subst z; exact hno
        · exact a1 p (by omega) h2
      · refine Or.inr ⟨p, st2, by omega, a2, a3, fun q h1 h2 => ?_, a5⟩
        by_cases z : q = o
        · subst z; exact hno
        · exact a4 q (by omega) h2
theorem rf_done (n : Nat) {k55 : am_M → Int32 → Int64 → Int32 → Int32 → Option (Int32 × am_M)} {R : am_M} {l1 c h : Int32} {ch : Int64} : ∀ K, 0 < K → X8_run_L90 n k55 K R l1 ch c 1 h = k55 R l1 ch c 1 := by
  intro K hK
  obtain ⟨K, rfl⟩ : ∃ J, K = J + 1 := ⟨K - 1, by omega⟩
  simp only [X8_run_L90, X8_run_B90, X8_run_J213]
  rw [if_neg (show ¬ (1 : Int32) = 0 by decide)]
  split <;> rfl
theorem round_both (n : Nat) (hn : 2200 < n) {τ : Nat → Int64} {P R0 : am_M} {N m M : Nat} {kd nx ot : Nat → Nat} {G : Nat → Nat → List Int32} {l1 c : Int32} {ch : Int64} (hb : rB n (am_sub τ 1) (am_sub P 1) R0 N m kd nx ot G) (hq : rQ (am_sub P 1) R0 N m kd G M) (hu : R0 0 35 = -1 ∨ ∃ k, k < m ∧ R0 0 35 = nI k) (k55 : am_M → Int32 → Int64 → Int32 → Int32 → Option (Int32 × am_M)) : ∀ (d h Kc Kr : Nat) (st : Nat → Int32), h + d = m → d < Kc → d + 1 < Kr →
    (X0_moveLeast_L29 n τ Kc P (R0 0 35) (nI h) = some (false, P) ∧ ∃ st', X8_run_L90 n k55 Kr (sC R0 16 st) l1 ch c 0 (nI h) = k55 (sC R0 16 st') l1 ch c 0) ∨ (∃ h' p st', h' < m ∧ p < m ∧ CN n (am_sub P 1) m M h' (R0 0 35) (nI p) ∧ X0_moveLeast_L29 n τ Kc P (R0 0 35) (nI h) = clMV n τ P (nI h') (nI p) ∧ X8_run_L90 n k55 Kr (sC R0 16 st) l1 ch c 0 (nI h) = rfMV n (fun R x => k55 R l1 ch x 1) (sC R0 16 st') c (nI h') (nI p)) := by
  have m8 := hb.2.2.2.1
  have m2 := hb.2.2.1
  have h3 := hb.2.2.2.2.2.1
  have hSm : P 1 1 = nI m := hb.2.2.2.2.1
  intro d
  induction d with
  | zero =>
    intro h Kc Kr st hd h1 h2
    obtain ⟨Kc, rfl⟩ : ∃ J, Kc = J + 1 := ⟨Kc - 1, by omega⟩
    obtain ⟨Kr, rfl⟩ : ∃ J, Kr = J + 1 := ⟨Kr - 1, by omega⟩
    refine Or.inl ⟨?_, st, ?_⟩
    · simp only [X0_moveLeast_L29, X0_moveLeast_B29]
      rw [hSm, if_pos (by rw [pu_le (by omega) (by omega)]; omega)]
    · simp only [X8_run_L90, X8_run_B90, X8_run_J213]
      rw [show (sC R0 16 st) 0 3 = nI m from h3, if_pos (by rw [pu_le (by omega) (by omega)]; omega)]
  | succ d ih =>
    intro h Kc Kr st hd h1 h2
    obtain ⟨Kc, rfl⟩ : ∃ J, Kc = J + 1 := ⟨Kc - 1, by omega⟩
    obtain ⟨Kr, rfl⟩ : ∃ J, Kr = J + 1 := ⟨Kr - 1, by omega⟩
    have hA := isAt_eq (k := 4) (st := st) hb (show h < m by omega) (hq.1 h (by omega)) (by omega)
    obtain ⟨t1, t2⟩ := cl_turn n hn (τ := τ) (u := R0 0 35) (K := Kc) (cnt := if dg (am_sub P 1) h = nI 4 then m else 1) hb hq (show h < m by omega) hu rfl
    have e90 : X8_run_L90 n k55 (Kr + 1) (sC R0 16 st) l1 ch c 0 (nI h) = X8_run_L116 n (X8_run_L90 n k55 Kr) n (sC R0 16 st) l1 ch c 0 (nI h) (b2i (decide (dg (am_sub P 1) h = nI 4))) (nI 0) := by
      simp only [X8_run_L90, X8_run_B90]
      rw [show (sC R0 16 st) 0 3 = nI m from h3, if_neg (by rw [pu_le (by omega) (by omega)]; omega), if_pos True.intro, show (4 : Int32) = nI 4 from rfl, hA]
      rfl
    have hcb : (if dg (am_sub P 1) h = nI 4 then m else 1) = if decide (dg (am_sub P 1) h = nI 4) = true then m else 1 := by
      by_cases q : dg (am_sub P 1) h = nI 4
      · rw [if_pos q, if_pos (decide_eq_true q)]
      · rw [if_neg q, if_neg (by rw [decide_eq_true_eq]; exact q)]
    have hc8 : (if dg (am_sub P 1) h = nI 4 then m else 1) ≤ m := by split <;> omega
    rw [e90]
    rcases rf_turn n hn (l1 := l1) (c := c) (ch := ch) hb hq (show h < m by omega) hcb (X8_run_L90 n k55 Kr) (if dg (am_sub P 1) h = nI 4 then m else 1) 0 n st (by omega) (by omega) with ⟨a1, st', a2⟩ | ⟨p, st', a1, a2, a3, a4, a5⟩
    · rw [a2, t1 (fun o ho => a1 o (Nat.zero_le _) ho)]
      exact ih (h + 1) Kc Kr st' (by omega) (by omega) (by omega)
    · refine Or.inr ⟨h, p, st', by omega, by omega, a3, t2 p a2 a3 (fun q hq' => a4 q (Nat.zero_le _) hq'), ?_⟩
      rw [a5]
      unfold rfMV
      congr 1
      funext q5
      split
      · dsimp only
        rw [rf_done n Kr (by omega)]
      · split
        · rfl
        · dsimp only
          rw [rf_done n Kr (by omega)]
