/-! ENDINGS: the reference tells them -/
theorem showE_rf (n : Nat) (hn : 2200 < n) {R S : am_M} {m M F i : Nat} {row : Nat → Nat → Int32} {isE : Nat → Bool} {o : Nat → Nat} (m8 : m ≤ 8) (hi : i ≤ 199) (h3 : R 0 3 = nI m) (h51 : R 0 51 = nI F) (hAT : ∀ h, h < m → R 15 (8 * h + 0) = S 1 (13 * h + 0)) (hST : ∀ h, h < m → R 15 (8 * h + 1) = S 1 (13 * h + 1)) (hTo : ∀ h, h < m → R 15 (8 * h + 7) = S 1 (13 * h + 9)) (h64 : R 15 64 = nI M) (hS : srt row isE i (o, F)) (hrow : row i = shw S m M) (hr : rws (R 25) row o F) :
    ∃ T, X8_showEnding n R = some T ∧ (∀ c, c ≠ 0 → c ≠ 25 → T c = R c) ∧ (∀ k, k ≠ 51 → T 0 k = R 0 k) ∧ T 0 51 = nI (insF row (o, F) i).2 ∧ rws (T 25) row (insF row (o, F) i).1 (insF row (o, F) i).2 := by
  have hFi : F ≤ i := hS.1
  obtain ⟨g1, w1, w2, w3, w4, w5⟩ := showW n hn (R := R) (S := S) (M := M) (E := F) m8 (by omega) h3 h51 hAT hTo h64 8 0 n (upd (R 25) (11 * F) (knd S m)) (by omega) (by omega)
  have e0 : X8_showEnding n R = X8_showEnding_L119 n n (sC R 25 g1) (nI F) := by
    unfold X8_showEnding
    rw [kindNow_eq n hn m8 h3 hAT hST]
    dsimp only [Option.bind]
    rw [h51, show (11 : Int32) * nI F = nI (11 * F) from pk_mul 11 F, if_neg (pu_g (n := 2211) (by omega) (by omega)), nI_clamp (by omega), ← w1, Nat.zero_min, nI_0]
    rfl
  have rowsL : ∀ e, e < F → ∀ c, c < 11 → g1 (11 * e + c) = row (o e) c := fun e he c hc => by
    rw [w2 _ (by omega), upd_ne (by omega)]
    exact hr e he c hc
  have rowN : ∀ c, c < 11 → g1 (11 * F + c) = row i c := fun c hc => by
    rw [hrow]
    unfold shw
    by_cases z : c = 0
    · subst z
      rw [if_pos rfl, w2 _ (by omega)]
      exact upd_eq
    · rw [if_neg z]
      by_cases z2 : c ≤ 8
      · rw [if_pos z2]
        have := w3 (c - 1) (Nat.zero_le _) (by omega)
        rw [show 11 * F + 1 + (c - 1) = 11 * F + c by omega] at this
        exact this
      · rw [if_neg z2]
        by_cases z3 : c = 9
        · subst z3; rw [if_pos rfl]; exact w4
        · have : c = 10 := by omega
          subst this; rw [if_neg (by omega)]; exact w5
  obtain ⟨p, p1, p2, p3⟩ := srt_cut hS (row i)
  dsimp only at p1 p2 p3
  have hins := srt_cnt (row := row) (o := o) (i := i) p1 p2 (fun e q1 q2 => by
      show lx (row (o e)) (row i) 0 11 ≠ -1
      rcases p3 with ⟨u1, u2, u3⟩ | u
      · by_cases y : e = p
        · subst y; rw [u2]; decide
        · rw [u3 e (by omega) q2]; decide
      · rw [u e q1 q2]; decide)
  rcases p3 with ⟨u1, u2, u3⟩ | u
  · rw [if_pos ⟨u1, u2⟩] at hins
    obtain ⟨g2, b1, b2, b3, b4⟩ := bubR n hn (R := R) (row := row) (o := o) (F := F) (q := p + 1) (r := row i) (by omega) (fun e q1 q2 => u3 e (by omega) q2) (by omega) (fun _ => Or.inl u2) (F - (p + 1)) n g1 (by omega) (by omega) (fun e he c hc => rowsL e (by omega) c hc) (fun c hc => by rw [show p + 1 + (F - (p + 1)) = F by omega]; exact rowN c hc) (fun e q1 q2 => by omega)
    rw [show p + 1 + (F - (p + 1)) = F by omega] at b1
    obtain ⟨g3, s1, s2, s3⟩ := shiftR n (R := R) (F := F) (by omega) h51 (11 * F - 11 * (p + 1)) (11 * (p + 1)) n g2 (by omega) (by omega)
    refine ⟨sC R 25 g3, ?_, fun c q1 q2 => sC_ne q2, fun _ _ => rfl, ?_, ?_⟩
    · rw [e0, b1]
      unfold X8_showEnding_J221 X8_showEnding_J250
      have hc := cmpR_eq n hn (R := R) (g := g2) (r := row (o p)) (r' := row i) (x := p) (y := p + 1) (by omega) (by omega) (b2 p (by omega)) b3
      rw [if_neg (nI_nle (by omega) (by omega)), sub1, show (11 : Int32) * nI p = nI (11 * p) from pk_mul 11 p, show (11 : Int32) * nI (p + 1) = nI (11 * (p + 1)) from pk_mul 11 (p + 1), hc]
      dsimp only [Option.bind]
      rw [if_pos u2, if_neg (by decide)]
      exact s1
    · rw [hins]; exact h51
    · rw [hins]
      intro e he c hc
      show g3 (11 * e + c) = _
      by_cases z : e ≤ p
      · rw [s2 _ (by omega)]
        exact b2 e (by omega) c hc
      · rw [s3 _ (by omega) (by dsimp only at he; omega), show 11 * e + c + 11 = 11 * (e + 1) + c by omega, b4 (e + 1) (by omega) (by dsimp only at he; omega) c hc]
        rfl
  · rw [if_neg (fun q => by
      have h0 : lx (row (o p)) (row i) 0 11 = 0 := q.2
      rw [u p (Nat.le_refl _) q.1] at h0
      exact absurd h0 (by decide))] at hins
    obtain ⟨g2, b1, b2, b3, b4⟩ := bubR n hn (R := R) (row := row) (o := o) (F := F) (q := p) (r := row i) (by omega) u p1 (fun q => Or.inr (p2 (p - 1) (by omega))) (F - p) n g1 (by omega) (by omega) (fun e he c hc => rowsL e (by omega) c hc) (fun c hc => by rw [show p + (F - p) = F by omega]; exact rowN c hc) (fun e q1 q2 => by omega)
    rw [show p + (F - p) = F by omega] at b1
    refine ⟨sC (sC R 25 g2) 0 (am_u (R 0) 51 (nI (F + 1))), ?_, fun c q1 q2 => by rw [sC_ne q1, sC_ne q2], fun k q => am_u_ne q, ?_, ?_⟩
    · rw [e0, b1]
      unfold X8_showEnding_J221 X8_showEnding_J249 X8_showEnding_J250
      have e51 : (sC R 25 g2) 0 51 + 1 = nI (F + 1) := by
        show R 0 51 + 1 = _
        rw [h51, nI_1]
      rw [e51]
      by_cases z : p = 0
      · subst z
        rw [if_pos (show nI 0 ≤ 0 from Int32.le_refl _), if_pos rfl]
      · obtain ⟨w, rfl⟩ : ∃ w, p = w + 1 := ⟨p - 1, by omega⟩
        have hc := cmpR_eq n hn (R := R) (g := g2) (r := row (o w)) (r' := row i) (x := w) (y := w + 1) (by omega) (by omega) (b2 w (by omega)) b3
        have h1 : lx (row (o w)) (row i) 0 11 = -1 := p2 w (by omega)
        rw [if_neg (nI_nle (by omega) (by omega)), sub1, show (11 : Int32) * nI w = nI (11 * w) from pk_mul 11 w, show (11 : Int32) * nI (w + 1) = nI (11 * (w + 1)) from pk_mul 11 (w + 1), hc]
        dsimp only [Option.bind]
        rw [if_neg (by rw [h1]; decide), if_pos rfl]
    · rw [hins]
    · rw [hins]
      intro e he c hc
      show g2 (11 * e + c) = row (insO o p i e) c
      unfold insO
      rcases Nat.lt_trichotomy e p with z | z | z
      · rw [if_pos z]; exact b2 e z c hc
      · subst z; rw [if_neg (by omega), if_pos rfl]; exact b3 c hc
      · rw [if_neg (by omega), if_neg (by omega)]
        exact b4 e z (by dsimp only at he; omega) c hc
/-- the reference's STATES -/
def sR (R : am_M) (m : Nat) (Sf σf : Nat → am_M) (Mf : Nat → Nat) (s : Nat) : Prop := ∀ j, j < s → snR R j (Mf j) (σf j) ∧ σf j 15 64 = nI (Mf j) ∧ Mf j ≤ 320 ∧ ∀ h, h < m → ∀ f, f < 8 → σf j 15 (8 * h + f) = Sf j 1 (13 * h + (if f < 6 then f else f + 2))
theorem sR_sp {n : Nat} {P R : am_M} {N m s : Nat} {kd : Nat → Nat} {G : Nat → Nat → List Int32} {Sf σf : Nat → am_M} {Mf : Nat → Nat} (h : spI n P R N m kd G Sf σf Mf s) : sR R m Sf σf Mf s := fun j hj => by
  obtain ⟨a1, a2, a3, a4, a5, a6, a7, a8⟩ := h.2.2.2.2.2.1 j hj
  exact ⟨a3, a4.2.1.2.2.1, (spI_sn h hj).2, fun h' hh f hf => hd_fld (a4.1 h' hh) f hf⟩
theorem sR_congr {R R' : am_M} {m : Nat} {Sf σf : Nat → am_M} {Mf : Nat → Nat} {s : Nat} (e : R' 21 = R 21) (h : sR R m Sf σf Mf s) : sR R' m Sf σf Mf s := fun j hj => by
  obtain ⟨a1, a2, a3, a4⟩ := h j hj
  exact ⟨fun x hx => by rw [e]; exact a1 x hx, a2, a3, a4⟩
theorem bring_sR (n : Nat) (hn : 2200 < n) {R : am_M} {m s j : Nat} {Sf σf : Nat → am_M} {Mf : Nat → Nat} (hs : s ≤ 200) (m8 : m ≤ 8) (h : sR R m Sf σf Mf s) (hj : j < s) (h64 : ∃ M', M' ≤ 320 ∧ R 15 64 = nI M') : ∃ g, X8_bring n R (nI j) = some (sC R 15 g) ∧ (∀ h, h < m → ∀ f, f < 8 → g (8 * h + f) = Sf j 1 (13 * h + (if f < 6 then f else f + 2))) ∧ g 64 = nI (Mf j) := by
  obtain ⟨a1, a2, a3, a4⟩ := h j hj
  obtain ⟨M', q1, q2⟩ := h64
  obtain ⟨g, e1, e2⟩ := bring_eq n hn (by omega) a3 q1 a1 a2 q2
  have e3 : ∀ x, x < 65 + 6 * Mf j → g x = σf j 15 x := e2
  exact ⟨g, e1, fun h hh f hf => by rw [e3 _ (by omega)]; exact a4 h hh f hf, by rw [e3 64 (by omega)]; exact a2⟩
theorem tell_loop (n : Nat) (hn : 2200 < n) {m s : Nat} {Sf σf : Nat → am_M} {Mf : Nat → Nat} {isE : Nat → Bool} (m8 : m ≤ 8) (hs : s ≤ 200) : ∀ (d i K : Nat) (R : am_M), i + d = s → d < K → R 0 46 = nI s → R 0 48 = 0 → R 0 3 = nI m → sR R m Sf σf Mf s → (∃ M', M' ≤ 320 ∧ R 15 64 = nI M') → (∀ j, j < s → (isE j = true ∧ R 23 j = 1) ∨ (isE j = false ∧ R 23 j = 0)) → R 0 51 = nI (ordF (rowF Sf m Mf) isE i).2 → rws (R 25) (rowF Sf m Mf) (ordF (rowF Sf m Mf) isE i).1 (ordF (rowF Sf m Mf) isE i).2 →
    ∃ T, X8_tell_L31 n K R (nI i) = X8_tell_J73 n T ∧ (∀ c, c ≠ 0 → c ≠ 15 → c ≠ 25 → T c = R c) ∧ (∀ k, k ≠ 51 → T 0 k = R 0 k) ∧ (∃ M', M' ≤ 320 ∧ T 15 64 = nI M') ∧ T 0 51 = nI (ordF (rowF Sf m Mf) isE s).2 ∧ rws (T 25) (rowF Sf m Mf) (ordF (rowF Sf m Mf) isE s).1 (ordF (rowF Sf m Mf) isE s).2 := by
  intro d
  induction d with
  | zero =>
    intro i K R hi hK h46 h48 h3 hst h64 hE h51 hr
    obtain ⟨K, rfl⟩ : ∃ J, K = J + 1 := ⟨K - 1, by omega⟩
    have e : i = s := by omega
    subst e
    refine ⟨R, ?_, fun _ _ _ _ => rfl, fun _ _ => rfl, h64, h51, hr⟩
    simp only [X8_tell_L31, X8_tell_B31]
    rw [h46, if_pos (Int32.le_refl _)]
  | succ d ih =>
    intro i K R hi hK h46 h48 h3 hst h64 hE h51 hr
    obtain ⟨K, rfl⟩ : ∃ J, K = J + 1 := ⟨K - 1, by omega⟩
    simp only [X8_tell_L31, X8_tell_B31, X8_tell_J67]
    rw [h46, if_neg (by rw [pu_le (by omega) (by omega)]; omega), if_pos h48, if_neg (pu_g (n := 201) (by omega) (by omega)), nI_clamp (by omega), nI_1]
    rcases hE i (by omega) with ⟨q1, q2⟩ | ⟨q1, q2⟩
    · rw [if_neg (by rw [q2]; decide)]
      obtain ⟨g, b1, b2, b3⟩ := bring_sR n hn hs m8 hst (show i < s by omega) h64
      rw [b1]
      dsimp only [Option.bind]
      have hSi := srt_ord (row := rowF Sf m Mf) (isE := isE) i
      have hord : ordF (rowF Sf m Mf) isE (i + 1) = insF (rowF Sf m Mf) (ordF (rowF Sf m Mf) isE i) i := if_pos q1
      generalize hOF : ordF (rowF Sf m Mf) isE i = oF at *
      obtain ⟨o, F⟩ := oF
      obtain ⟨T, t1, t2, t3, t4, t5⟩ := showE_rf n hn (R := sC R 15 g) (S := Sf i) (m := m) (M := Mf i) (F := F) (i := i) (row := rowF Sf m Mf) (isE := isE) (o := o) m8 (by omega) h3 h51 (fun h hh => b2 h hh 0 (by omega)) (fun h hh => b2 h hh 1 (by omega)) (fun h hh => b2 h hh 7 (by omega)) b3 hSi rfl hr
      rw [t1]
      dsimp only
      have t2' : ∀ c, c ≠ 0 → c ≠ 15 → c ≠ 25 → T c = R c := fun c z1 z2 z3 => by rw [t2 c z1 z3, sC_ne z2]
      have t3' : ∀ k, k ≠ 51 → T 0 k = R 0 k := fun k z => t3 k z
      obtain ⟨T', y1, y2, y3, y4, y5, y6⟩ := ih (i + 1) K T (by omega) (by omega) (by rw [t3' 46 (by omega)]; exact h46) (by rw [t3' 48 (by omega)]; exact h48) (by rw [t3' 3 (by omega)]; exact h3) (sR_congr (t2' 21 (by omega) (by omega) (by omega)) hst) ⟨Mf i, (hst i (by omega)).2.2.1, by rw [t2 15 (by omega) (by omega)]; exact b3⟩ (fun j hj => by rw [t2' 23 (by omega) (by omega) (by omega)]; exact hE j hj) (by rw [hord]; exact t4) (by rw [hord]; exact t5)
      exact ⟨T', y1, fun c z1 z2 z3 => (y2 c z1 z2 z3).trans (t2' c z1 z2 z3), fun k z => (y3 k z).trans (t3' k z), y4, y5, y6⟩
    · rw [if_pos q2]
      have hord : ordF (rowF Sf m Mf) isE (i + 1) = ordF (rowF Sf m Mf) isE i := if_neg (by rw [q1]; decide)
      exact ih (i + 1) K R (by omega) (by omega) h46 h48 h3 hst h64 hE (by rw [hord]; exact h51) (by rw [hord]; exact hr)
theorem tell_copy (n : Nat) : ∀ (d i K : Nat) (R : am_M) (g : Nat → Int32), i + d = 320 → d < K → (∀ x, x < i → g x = R 24 x) → ∃ g', X8_tell_L91 n K (sC R 26 g) (nI i) = some (decide (R 0 52 = 0), sC R 26 g') ∧ ∀ x, x < 320 → g' x = R 24 x := by
  intro d
  induction d with
  | zero =>
    intro i K R g hi hK hg
    obtain ⟨K, rfl⟩ : ∃ J, K = J + 1 := ⟨K - 1, by omega⟩
    refine ⟨g, ?_, fun x hx => hg x (by omega)⟩
    simp only [X8_tell_L91, X8_tell_B91, X8_tell_J116]
    rw [if_pos (show (320 : Int32) ≤ nI i by rw [show (320 : Int32) = nI 320 from rfl, pu_le (by omega) (by omega)]; omega)]
    show (if R 0 52 = 0 then _ else _) = _
    split
    · rename_i q; rw [decide_eq_true q]
    · rename_i q; rw [decide_eq_false q]
  | succ d ih =>
    intro i K R g hi hK hg
    obtain ⟨K, rfl⟩ : ∃ J, K = J + 1 := ⟨K - 1, by omega⟩
    simp only [X8_tell_L91, X8_tell_B91]
    rw [if_neg (show ¬ (320 : Int32) ≤ nI i by rw [show (320 : Int32) = nI 320 from rfl, pu_le (by omega) (by omega)]; omega), if_neg (pu_g (n := 320) (by omega) (by omega)), if_neg (pu_g (n := 320) (by omega) (by omega)), nI_clamp (by omega), nI_1, sC_sC]
    exact ih (i + 1) K R (upd g i (R 24 i)) (by omega) (by omega) (fun x hx => by
      by_cases z : x = i
      · subst z; exact upd_eq
      · rw [upd_ne z]; exact hg x (by omega))
theorem tell_j73 (n : Nat) (hn : 2200 < n) {T : am_M} (h48 : T 0 48 = 0 ∨ T 0 48 = 1) : ∃ T', X8_tell_J73 n T = some (decide (T 0 48 = 0), T') ∧ (∀ c, c ≠ 0 → c ≠ 26 → T' c = T c) ∧ (∀ k, k ≠ 52 → k ≠ 53 → T' 0 k = T 0 k) ∧ T' 0 52 = T 0 48 ∧ T' 0 53 = T 0 46 ∧ ∀ x, x < 320 → T' 26 x = T 24 x := by
  obtain ⟨Q, hQ⟩ : ∃ Q, Q = sC T 0 (am_u (am_u (T 0) 52 (T 0 48)) 53 (T 0 46)) := ⟨_, rfl⟩
  obtain ⟨g, e1, e2⟩ := tell_copy n 320 0 n Q (Q 26) (by omega) (by omega) (fun x hx => by omega)
  rw [sC_self, nI_0] at e1
  refine ⟨sC Q 26 g, ?_, fun c q1 q2 => by rw [sC_ne q2, hQ, sC_ne q1], fun k q1 q2 => ?_, by rw [hQ], by rw [hQ], fun x hx => ?_⟩
  · unfold X8_tell_J73
    rw [if_neg (fun q => q h48), ← hQ, e1]
    rw [show Q 0 52 = T 0 48 by rw [hQ]]
  · rw [hQ]
    show am_u (am_u (T 0) 52 (T 0 48)) 53 (T 0 46) k = _
    rw [am_u_ne q2, am_u_ne q1]
  · show g x = _
    rw [e2 x hx, hQ]
theorem locks_loop (n : Nat) (hn : 2200 < n) {m s : Nat} {Sf σf : Nat → am_M} {Mf : Nat → Nat} (m8 : m ≤ 8) (hs : s ≤ 200) : ∀ (d i K : Nat) (R : am_M), i + d = s → d < K → R 0 46 = nI s → R 0 3 = nI m → sR R m Sf σf Mf s → (∃ M', M' ≤ 320 ∧ R 15 64 = nI M') → (∀ j, j < s → R 23 j = 1 ∨ R 23 j = 0) →
    ∃ b g, X8_someLocks_L2 n K R (nI i) = some (b, sC R 15 g) ∧ (b = true ↔ ∃ j, i ≤ j ∧ j < s ∧ R 23 j = 1 ∧ knd (Sf j) m = 2) ∧ ∃ M', M' ≤ 320 ∧ g 64 = nI M' := by
  intro d
  induction d with
  | zero =>
    intro i K R hi hK h46 h3 hst h64 hE
    obtain ⟨K, rfl⟩ : ∃ J, K = J + 1 := ⟨K - 1, by omega⟩
    refine ⟨false, R 15, ?_, ⟨fun q => absurd q (by decide), fun ⟨j, q1, q2, _⟩ => by omega⟩, h64⟩
    simp only [X8_someLocks_L2, X8_someLocks_B2]
    rw [h46, if_pos (by rw [pu_le (by omega) (by omega)]; omega), sC_self]
  | succ d ih =>
    intro i K R hi hK h46 h3 hst h64 hE
    obtain ⟨K, rfl⟩ : ∃ J, K = J + 1 := ⟨K - 1, by omega⟩
    simp only [X8_someLocks_L2, X8_someLocks_B2, X8_someLocks_J37]
    rw [h46, if_neg (by rw [pu_le (by omega) (by omega)]; omega), if_neg (pu_g (n := 201) (by omega) (by omega)), nI_clamp (by omega), nI_1]
    rcases hE i (by omega) with q | q
    · rw [if_neg (by rw [q]; decide)]
      obtain ⟨g, b1, b2, b3⟩ := bring_sR n hn hs m8 hst (show i < s by omega) h64
      rw [b1]
      dsimp only [Option.bind]
      rw [kindNow_eq n hn (R := sC R 15 g) (S := Sf i) m8 h3 (fun h hh => b2 h hh 0 (by omega)) (fun h hh => b2 h hh 1 (by omega))]
      dsimp only
      by_cases z : knd (Sf i) m = 2
      · rw [if_pos z]
        exact ⟨true, g, rfl, ⟨fun _ => ⟨i, Nat.le_refl _, by omega, q, z⟩, fun _ => rfl⟩, Mf i, (hst i (by omega)).2.2.1, b3⟩
      · rw [if_neg z]
        obtain ⟨b, g', e1, e2, e3⟩ := ih (i + 1) K (sC R 15 g) (by omega) (by omega) h46 h3 (sR_congr rfl hst) ⟨Mf i, (hst i (by omega)).2.2.1, b3⟩ hE
        rw [sC_sC] at e1
        refine ⟨b, g', e1, e2.trans ⟨fun ⟨j, y1, y2, y3⟩ => ⟨j, by omega, y2, y3⟩, fun ⟨j, y1, y2, y3, y4⟩ => ⟨j, ?_, y2, y3, y4⟩⟩, e3⟩
        rcases Nat.lt_or_ge i j with x | x
        · exact x
        · have : j = i := by omega
          subst this; exact absurd y4 z
    · rw [if_pos q]
      obtain ⟨b, g', e1, e2, e3⟩ := ih (i + 1) K R (by omega) (by omega) h46 h3 hst h64 hE
      refine ⟨b, g', e1, e2.trans ⟨fun ⟨j, y1, y2, y3⟩ => ⟨j, by omega, y2, y3⟩, fun ⟨j, y1, y2, y3, y4⟩ => ⟨j, ?_, y2, y3, y4⟩⟩, e3⟩
      rcases Nat.lt_or_ge i j with x | x
      · exact x
      · have : j = i := by omega
        subst this
        rw [q] at y3; exact absurd y3 (by decide)
