/-! WHAT IS TOLD OF ENDINGS: both answer alike -/
theorem lgz {x y : Int64} : lg_cmp x y = 0 ↔ x = y := by
  unfold lg_cmp
  constructor
  · intro h
    split at h
    · exact absurd h (by decide)
    · split at h
      · assumption
      · exact absurd h (by decide)
  · intro h
    subst h
    rw [if_neg (fun q => by
      have : x < x := q
      rw [Int64.lt_iff_toInt_lt] at this
      omega), if_pos rfl]
theorem knd_3 {S : am_M} {m : Nat} : knd S m = 0 ∨ knd S m = 1 ∨ knd S m = 2 := by
  unfold knd
  split
  · exact Or.inl rfl
  · split
    · exact Or.inr (Or.inl rfl)
    · exact Or.inr (Or.inr rfl)
theorem vC_at {P : am_M} {m : Nat} {v : VT} (h : vC P m v) (h0 : v.1 = 0) {e : Nat} (he : e < v.2.2.2.1) : ∃ (i M : Nat) (S : am_M), i < 200 ∧ jat 200 (P 26) (nI e) = nI i ∧ eRow P m i M S ∧ ∀ c, c < 11 → v.2.2.2.2 e c = shw S m M c := by
  obtain ⟨a1, a2, a3, a4⟩ := h.2.2.2.2.2 h0
  obtain ⟨i, M, S, b1, b2, b3, b4⟩ := a3 e he
  exact ⟨i, M, S, b1, by rw [jat_nI (by omega) (by omega), b2], b3, b4⟩
theorem vC_kind {P : am_M} {m : Nat} {v : VT} (h : vC P m v) (h0 : v.1 = 0) {e : Nat} (he : e < v.2.2.2.1) : X4_kindOfEnding P (nI e) = v.2.2.2.2 e 0 := by
  obtain ⟨i, M, S, b1, b2, b3, b4⟩ := vC_at h h0 he
  unfold X4_kindOfEnding
  rw [b2, jat_nI b1 (by omega), b3.2.2, b4 0 (by omega)]
  rfl
theorem vC_k3 {P : am_M} {m : Nat} {v : VT} (h : vC P m v) (h0 : v.1 = 0) {e : Nat} (he : e < v.2.2.2.1) : v.2.2.2.2 e 0 = 0 ∨ v.2.2.2.2 e 0 = 1 ∨ v.2.2.2.2 e 0 = 2 := by
  obtain ⟨i, M, S, b1, b2, b3, b4⟩ := vC_at h h0 he
  rw [b4 0 (by omega)]
  exact knd_3
theorem vC_mono {P : am_M} {m : Nat} {v : VT} (h : vC P m v) (h0 : v.1 = 0) {e f : Nat} (hef : e ≤ f) (hf : f < v.2.2.2.1) : ¬ v.2.2.2.2 f 0 < v.2.2.2.2 e 0 := by
  rcases Nat.lt_or_ge e f with q | q
  · exact lx_first ((h.2.2.2.2.2 h0).2.2.2 e f q hf)
  · have : e = f := by omega
    subst this
    intro z
    exact i32_ne z rfl
theorem locks_cl {P : am_M} {m : Nat} {v : VT} (h : vC P m v) : X4_locks P = true ↔ (v.1 = 0 ∧ ∃ e, e < v.2.2.2.1 ∧ v.2.2.2.2 e 0 = 2) := by
  unfold X4_locks
  rw [h.1]
  by_cases h0 : v.1 = 0
  · obtain ⟨a1, a2, a3, a4⟩ := h.2.2.2.2.2 h0
    rw [if_pos h0, a1]
    by_cases hF : v.2.2.2.1 = 0
    · rw [hF, if_pos (show nI 0 ≤ 0 from Int32.le_refl _)]
      exact ⟨fun q => absurd q (by decide), fun ⟨_, e, q, _⟩ => by omega⟩
    · obtain ⟨g, hg⟩ : ∃ g, v.2.2.2.1 = g + 1 := ⟨v.2.2.2.1 - 1, by omega⟩
      rw [hg, if_neg (nI_nle (by omega) (by omega)), sub1, vC_kind h h0 (show g < v.2.2.2.1 by omega)]
      by_cases q : v.2.2.2.2 g 0 = 2
      · rw [if_pos q]
        exact ⟨fun _ => ⟨h0, g, by omega, q⟩, fun _ => rfl⟩
      · rw [if_neg q]
        refine ⟨fun z => absurd z (by decide), fun ⟨_, e, e1, e2⟩ => ?_⟩
        have := vC_mono h h0 (show e ≤ g by omega) (by omega)
        rw [e2] at this
        rcases vC_k3 h h0 (show g < v.2.2.2.1 by omega) with z | z | z
        · rw [z] at this; exact absurd (by decide) this
        · rw [z] at this; exact absurd (by decide) this
        · exact absurd z q
  · rw [if_neg h0]
    exact ⟨fun q => absurd q (by decide), fun q => absurd q.1 h0⟩
theorem endings_loop (n : Nat) {P T : am_M} {m : Nat} {v : VT} {k : Int32} (h : vC P m v) (ht : vT T v) (h0 : v.1 = 0) : ∀ (d e K K' : Nat) (a : Int32), e + d = v.2.2.2.1 → d < K → d < K' → ∃ r, X4_endingsOf_L4 n P K k a (nI e) = some r ∧ X8_endings_L34 n K' T k a (nI e) = some (r, T) := by
  obtain ⟨a1, a2, a3, a4⟩ := h.2.2.2.2.2 h0
  obtain ⟨t1, t2, t3⟩ := ht.2.2.2 h0
  intro d
  induction d with
  | zero =>
    intro e K K' a he hK hK'
    obtain ⟨K, rfl⟩ : ∃ J, K = J + 1 := ⟨K - 1, by omega⟩
    obtain ⟨K', rfl⟩ : ∃ J, K' = J + 1 := ⟨K' - 1, by omega⟩
    refine ⟨a, ?_, ?_⟩
    · simp only [X4_endingsOf_L4, X4_endingsOf_B4]
      rw [a1, if_pos (by rw [pu_le (by omega) (by omega)]; omega)]
    · simp only [X8_endings_L34, X8_endings_B34]
      rw [t1, if_pos (by rw [pu_le (by omega) (by omega)]; omega)]
  | succ d ih =>
    intro e K K' a he hK hK'
    obtain ⟨K, rfl⟩ : ∃ J, K = J + 1 := ⟨K - 1, by omega⟩
    obtain ⟨K', rfl⟩ : ∃ J, K' = J + 1 := ⟨K' - 1, by omega⟩
    obtain ⟨r0, p0, q0⟩ := ih (e + 1) K K' a (by omega) (by omega) (by omega)
    obtain ⟨r1, p1, q1⟩ := ih (e + 1) K K' (a + 1) (by omega) (by omega) (by omega)
    have e25 : T 25 (11 * e) = v.2.2.2.2 e 0 := t3 e (by omega) 0 (by omega)
    have ec : X4_endingsOf_L4 n P (K + 1) k a (nI e) = if k = -1 ∨ v.2.2.2.2 e 0 = k then some r1 else some r0 := by
      simp only [X4_endingsOf_L4, X4_endingsOf_B4, X4_endingsOf_J26, X4_endingsOf_J29]
      rw [a1, if_neg (by rw [pu_le (by omega) (by omega)]; omega), vC_kind h h0 (by omega), nI_1, p0, p1]
      by_cases c : k = -1
      · rw [if_pos c, if_pos (Or.inl c)]
      · rw [if_neg c]
        by_cases c2 : v.2.2.2.2 e 0 = k
        · rw [if_pos c2, if_pos (Or.inr c2)]
        · rw [if_neg c2, if_neg (fun z => z.elim c c2)]
    have er : X8_endings_L34 n (K' + 1) T k a (nI e) = if k = -1 ∨ v.2.2.2.2 e 0 = k then some (r1, T) else some (r0, T) := by
      simp only [X8_endings_L34, X8_endings_B34, X8_endings_J61, X8_endings_J66]
      rw [t1, if_neg (by rw [pu_le (by omega) (by omega)]; omega), show (11 : Int32) * nI e = nI (11 * e) from pk_mul 11 e, if_neg (pu_g (n := 2211) (by omega) (by omega)), nI_clamp (by omega), e25, Int32.add_zero, nI_1, q0, q1]
      by_cases c : k = -1
      · rw [if_pos c, if_pos (Or.inl c)]
      · rw [if_neg c]
        by_cases c2 : v.2.2.2.2 e 0 = k
        · rw [if_pos c2, if_pos (Or.inr c2)]
        · rw [if_neg c2, if_neg (fun z => z.elim c c2)]
    by_cases c : k = -1 ∨ v.2.2.2.2 e 0 = k
    · exact ⟨r1, by rw [ec, if_pos c], by rw [er, if_pos c]⟩
    · exact ⟨r0, by rw [ec, if_neg c], by rw [er, if_neg c]⟩
theorem vC_told {P : am_M} {m : Nat} {v : VT} (m8 : m ≤ 8) (h : vC P m v) (h0 : v.1 = 0) {e x : Nat} (he : e < v.2.2.2.1) (hx : x < m) : X4_toldOf P (jat 200 (P 26) (nI e)) (nI x) = v.2.2.2.2 e (1 + x) := by
  obtain ⟨i, M, S, b1, b2, b3, b4⟩ := vC_at h h0 he
  rw [b2, toldP_eq m8 b1 hx b3.1, b4 (1 + x) (by omega)]
  unfold shw
  rw [if_neg (by omega), if_pos (by omega), show 1 + x - 1 = x by omega, if_pos hx]
theorem vC_z {P : am_M} {m : Nat} {v : VT} (h : vC P m v) (h0 : v.1 = 0) {e x : Nat} (he : e < v.2.2.2.1) (h1 : m ≤ x) (h2 : x < 8) : v.2.2.2.2 e (1 + x) = 0 := by
  obtain ⟨i, M, S, b1, b2, b3, b4⟩ := vC_at h h0 he
  rw [b4 (1 + x) (by omega)]
  unfold shw
  rw [if_neg (by omega), if_pos (by omega), if_neg (by omega)]
theorem tellE (n : Nat) (hn : 2200 < n) {P T : am_M} {m : Nat} {v : VT} (m8 : m ≤ 8) (h : vC P m v) (ht : vT T v) (h0 : v.1 = 0) {e : Nat} (he : e < v.2.2.2.1) : X4_tellEnding n P (nI e) 0 = some (T 25 (11 * e)) ∧ X4_tellEnding n P (nI e) 1 = some (T 25 (11 * e + 9)) ∧ X4_tellEnding n P (nI e) 2 = some (T 25 (11 * e + 10)) ∧ ∀ x, x < m → X4_tellEnding n P (nI e) (nI (4 + x)) = some (T 25 (11 * e + (4 + x) - 3)) := by
  obtain ⟨a1, a2, a3, a4⟩ := h.2.2.2.2.2 h0
  obtain ⟨t1, t2, t3⟩ := ht.2.2.2 h0
  obtain ⟨i, M, S, b1, b2, b3, b4⟩ := vC_at h h0 he
  refine ⟨?_, ?_, ?_, fun x hx => ?_⟩
  · unfold X4_tellEnding
    rw [if_pos rfl, vC_kind h h0 he, ← t3 e he 0 (by omega)]
    rfl
  · unfold X4_tellEnding
    rw [if_neg (by decide), if_pos rfl, b2, wordsP_eq b1 b3, t3 e he 9 (by omega), b4 9 (by omega)]
    rfl
  · unfold X4_tellEnding
    rw [if_neg (by decide), if_neg (by decide), if_pos rfl, b2, unendP_eq n hn m8 b1 (by exact h.2.2.2.2.1) b3.1, t3 e he 10 (by omega), b4 10 (by omega)]
    rfl
  · have ne : ∀ y : Nat, y < 3 → ¬ nI (4 + x) = nI y := fun y hy q => by
      have := (nI_eq (by omega) (by omega)).mp q
      omega
    unfold X4_tellEnding
    rw [if_neg (show ¬ nI (4 + x) = (0 : Int32) from ne 0 (by omega)), if_neg (show ¬ nI (4 + x) = (1 : Int32) from ne 1 (by omega)), if_neg (show ¬ nI (4 + x) = (2 : Int32) from ne 2 (by omega)), show nI (4 + x) - 4 = nI x from nI_asub 4 x, vC_told m8 h h0 he hx, show 11 * e + (4 + x) - 3 = 11 * e + (1 + x) by omega, t3 e he (1 + x) (by omega)]
theorem dif41 (n : Nat) {P T : am_M} {m : Nat} {v : VT} (h : vC P m v) (ht : vT T v) (h0 : v.1 = 0) {k16 : am_M → Int32 → Option (Bool × am_M)} {k2 : Int32 → Option Bool} {e : Nat} (m8 : m ≤ 8) (he : e < v.2.2.2.1) : ∀ (d x Kc Kr : Nat), x + d = 8 → d < Kc → d < Kr → (X8_differs_L41 n k16 Kr T (nI e) (nI x) = some (true, T) ∧ (x ≤ m → X4_wholeUnlike_L20 n P k2 Kc (nI e) (nI x) = some true)) ∨ (X8_differs_L41 n k16 Kr T (nI e) (nI x) = k16 T (nI (e + 1)) ∧ (x ≤ m → X4_wholeUnlike_L20 n P k2 Kc (nI e) (nI x) = k2 (nI (e + 1)))) := by
  obtain ⟨a1, a2, a3, a4⟩ := h.2.2.2.2.2 h0
  obtain ⟨t1, t2, t3⟩ := ht.2.2.2 h0
  have h13 := h.2.2.2.2.1
  intro d
  induction d with
  | zero =>
    intro x Kc Kr hx h1 h2
    obtain ⟨Kc, rfl⟩ : ∃ J, Kc = J + 1 := ⟨Kc - 1, by omega⟩
    obtain ⟨Kr, rfl⟩ : ∃ J, Kr = J + 1 := ⟨Kr - 1, by omega⟩
    refine Or.inr ⟨?_, fun hm => ?_⟩
    · simp only [X8_differs_L41, X8_differs_B41, X8_differs_J79]
      rw [if_pos (show (8 : Int32) ≤ nI x by rw [show (8 : Int32) = nI 8 from rfl, pu_le (by omega) (by omega)]; omega), nI_1]
    · simp only [X4_wholeUnlike_L20, X4_wholeUnlike_B20]
      rw [h13, if_pos (by rw [pu_le (by omega) (by omega)]; omega), nI_1]
  | succ d ih =>
    intro x Kc Kr hx h1 h2
    obtain ⟨Kc, rfl⟩ : ∃ J, Kc = J + 1 := ⟨Kc - 1, by omega⟩
    obtain ⟨Kr, rfl⟩ : ∃ J, Kr = J + 1 := ⟨Kr - 1, by omega⟩
    have er : X8_differs_L41 n k16 (Kr + 1) T (nI e) (nI x) = if v.2.2.2.2 e (1 + x) = v.2.2.2.2 0 (1 + x) then X8_differs_L41 n k16 Kr T (nI e) (nI (x + 1)) else some (true, T) := by
      simp only [X8_differs_L41, X8_differs_B41]
      rw [if_neg (show ¬ (8 : Int32) ≤ nI x by rw [show (8 : Int32) = nI 8 from rfl, pu_le (by omega) (by omega)]; omega), show (11 : Int32) * nI e = nI (11 * e) from pk_mul 11 e, nI_1, nI_add, show (1 : Int32) + nI x = nI (1 + x) from nI_add 1 x, if_neg (pu_g (n := 2211) (by omega) (by omega)), if_neg (pu_g (n := 2211) (by omega) (by omega)), nI_clamp (by omega), nI_clamp (by omega), nI_1, show 11 * e + 1 + x = 11 * e + (1 + x) by omega, t3 e he (1 + x) (by omega)]
      have := t3 0 (by omega) (1 + x) (by omega)
      rw [show 11 * 0 + (1 + x) = 1 + x by omega] at this
      rw [this]
    by_cases hxm : x < m
    · have ec : X4_wholeUnlike_L20 n P k2 (Kc + 1) (nI e) (nI x) = if v.2.2.2.2 e (1 + x) = v.2.2.2.2 0 (1 + x) then X4_wholeUnlike_L20 n P k2 Kc (nI e) (nI (x + 1)) else some true := by
        have z := vC_told m8 h h0 (show 0 < v.2.2.2.1 by omega) hxm
        rw [nI_0] at z
        simp only [X4_wholeUnlike_L20, X4_wholeUnlike_B20]
        rw [h13, if_neg (by rw [pu_le (by omega) (by omega)]; omega), vC_told m8 h h0 he hxm, z, nI_1]
      rw [er, ec]
      by_cases c : v.2.2.2.2 e (1 + x) = v.2.2.2.2 0 (1 + x)
      · rw [if_pos c, if_pos c]
        rcases ih (x + 1) Kc Kr (by omega) (by omega) (by omega) with ⟨p, q⟩ | ⟨p, q⟩
        · exact Or.inl ⟨p, fun _ => q (by omega)⟩
        · exact Or.inr ⟨p, fun _ => q (by omega)⟩
      · rw [if_neg c, if_neg c]
        exact Or.inl ⟨rfl, fun _ => rfl⟩
    · rw [er, if_pos (by rw [vC_z h h0 he (by omega) (by omega), vC_z h h0 (by omega) (by omega) (by omega)])]
      have ec : x ≤ m → X4_wholeUnlike_L20 n P k2 (Kc + 1) (nI e) (nI x) = k2 (nI (e + 1)) := fun hm => by
        simp only [X4_wholeUnlike_L20, X4_wholeUnlike_B20]
        rw [h13, if_pos (by rw [pu_le (by omega) (by omega)]; omega), nI_1]
      refine Or.inr ⟨?_, ec⟩
      have all : ∀ (d x K : Nat), x + d = 8 → d < K → m ≤ x → X8_differs_L41 n k16 K T (nI e) (nI x) = k16 T (nI (e + 1)) := by
        intro d
        induction d with
        | zero =>
          intro x K hx hK hm
          obtain ⟨K, rfl⟩ : ∃ J, K = J + 1 := ⟨K - 1, by omega⟩
          simp only [X8_differs_L41, X8_differs_B41, X8_differs_J79]
          rw [if_pos (show (8 : Int32) ≤ nI x by rw [show (8 : Int32) = nI 8 from rfl, pu_le (by omega) (by omega)]; omega), nI_1]
        | succ d ih2 =>
          intro x K hx hK hm
          obtain ⟨K, rfl⟩ : ∃ J, K = J + 1 := ⟨K - 1, by omega⟩
          simp only [X8_differs_L41, X8_differs_B41]
          have := t3 0 (by omega) (1 + x) (by omega)
          rw [show 11 * 0 + (1 + x) = 1 + x by omega] at this
          rw [if_neg (show ¬ (8 : Int32) ≤ nI x by rw [show (8 : Int32) = nI 8 from rfl, pu_le (by omega) (by omega)]; omega), show (11 : Int32) * nI e = nI (11 * e) from pk_mul 11 e, nI_1, nI_add, show (1 : Int32) + nI x = nI (1 + x) from nI_add 1 x, if_neg (pu_g (n := 2211) (by omega) (by omega)), if_neg (pu_g (n := 2211) (by omega) (by omega)), nI_clamp (by omega), nI_clamp (by omega), nI_1, show 11 * e + 1 + x = 11 * e + (1 + x) by omega, t3 e he (1 + x) (by omega), this, vC_z h h0 he (by omega) (by omega), vC_z h h0 (by omega) (by omega) (by omega), if_pos rfl]
          exact ih2 (x + 1) K (by omega) (by omega) (by omega)
      exact all d (x + 1) Kr (by omega) (by omega) (by omega)
theorem dif_loop (n : Nat) (hn : 2200 < n) {P T : am_M} {m : Nat} {v : VT} (m8 : m ≤ 8) (h : vC P m v) (ht : vT T v) (h0 : v.1 = 0) : ∀ (d e Kc Kr : Nat), e + d = 201 → d < Kc → d < Kr → ∃ b, X8_differs_L16 n Kr T (nI e) = some (b, T) ∧ ((∀ f, f < e → f < v.2.2.2.1 → 1 ≤ f → v.2.2.2.2 f 0 = 0) → X4_wholeUnlike_L2 n P Kc (nI e) = some b) ∧ ((∃ f, f < e ∧ f < v.2.2.2.1 ∧ v.2.2.2.2 f 0 ≠ 0) → b = false) := by
  obtain ⟨a1, a2, a3, a4⟩ := h.2.2.2.2.2 h0
  obtain ⟨t1, t2, t3⟩ := ht.2.2.2 h0
  intro d
  induction d with
  | zero =>
    intro e Kc Kr he h1 h2
    obtain ⟨Kc, rfl⟩ : ∃ J, Kc = J + 1 := ⟨Kc - 1, by omega⟩
    obtain ⟨Kr, rfl⟩ : ∃ J, Kr = J + 1 := ⟨Kr - 1, by omega⟩
    refine ⟨false, ?_, fun _ => ?_, fun _ => rfl⟩
    · simp only [X8_differs_L16, X8_differs_B16]
      rw [t1, if_pos (by rw [pu_le (by omega) (by omega)]; omega)]
    · simp only [X4_wholeUnlike_L2, X4_wholeUnlike_B2]
      rw [a1, if_pos (by rw [pu_le (by omega) (by omega)]; omega)]
  | succ d ih =>
    intro e Kc Kr he h1 h2
    obtain ⟨Kc, rfl⟩ : ∃ J, Kc = J + 1 := ⟨Kc - 1, by omega⟩
    obtain ⟨Kr, rfl⟩ : ∃ J, Kr = J + 1 := ⟨Kr - 1, by omega⟩
    by_cases hF : e < v.2.2.2.1
    · have e25 : T 25 (11 * e) = v.2.2.2.2 e 0 := t3 e hF 0 (by omega)
      obtain ⟨b, i1, i2, i3⟩ := ih (e + 1) Kc Kr (by omega) (by omega) (by omega)
      have er : X8_differs_L16 n (Kr + 1) T (nI e) = if v.2.2.2.2 e 0 = 0 then X8_differs_L41 n (X8_differs_L16 n Kr) n T (nI e) (nI 0) else some (b, T) := by
        simp only [X8_differs_L16, X8_differs_B16, X8_differs_J79]
        rw [t1, if_neg (by rw [pu_le (by omega) (by omega)]; omega), show (11 : Int32) * nI e = nI (11 * e) from pk_mul 11 e, if_neg (pu_g (n := 2211) (by omega) (by omega)), nI_clamp (by omega), e25, nI_1, i1, nI_0]
      have ec : X4_wholeUnlike_L2 n P (Kc + 1) (nI e) = if v.2.2.2.2 e 0 = 0 then X4_wholeUnlike_L20 n P (X4_wholeUnlike_L2 n P Kc) n (nI e) (nI 0) else some false := by
        simp only [X4_wholeUnlike_L2, X4_wholeUnlike_B2]
        rw [a1, if_neg (by rw [pu_le (by omega) (by omega)]; omega), vC_kind h h0 hF, nI_0]
      by_cases z : v.2.2.2.2 e 0 = 0
      · rw [er, ec, if_pos z, if_pos z]
        have nobad : ¬ ∃ f, f < e ∧ f < v.2.2.2.1 ∧ v.2.2.2.2 f 0 ≠ 0 := by
          rintro ⟨f, f1, f2, f3⟩
          have := vC_mono h h0 (show f ≤ e by omega) hF
          rw [z] at this
          rcases vC_k3 h h0 f2 with y | y | y
          · exact f3 y
          · rw [y] at this; exact this (by decide)
          · rw [y] at this; exact this (by decide)
        rcases dif41 n (k16 := X8_differs_L16 n Kr) (k2 := X4_wholeUnlike_L2 n P Kc) h ht h0 m8 hF 8 0 n n (by omega) (by omega) (by omega) with ⟨p, q⟩ | ⟨p, q⟩
        · exact ⟨true, p, fun _ => q (Nat.zero_le _), fun y => absurd y nobad⟩
        · refine ⟨b, p.trans i1, fun hf => (q (Nat.zero_le _)).trans (i2 (fun f f1 f2 f3 => ?_)), fun y => absurd y nobad⟩
          by_cases y : f = e
          · rw [y]; exact z
          · exact hf f (by omega) f2 f3
      · rw [er, ec, if_neg z, if_neg z]
        have hb : b = false := i3 ⟨e, by omega, hF, z⟩
        exact ⟨b, rfl, fun _ => by rw [hb], fun _ => hb⟩
    · refine ⟨false, ?_, fun _ => ?_, fun _ => rfl⟩
      · simp only [X8_differs_L16, X8_differs_B16]
        rw [t1, if_pos (by rw [pu_le (by omega) (by omega)]; omega)]
      · simp only [X4_wholeUnlike_L2, X4_wholeUnlike_B2]
        rw [a1, if_pos (by rw [pu_le (by omega) (by omega)]; omega)]
theorem dif_both (n : Nat) (hn : 2200 < n) {P T : am_M} {m : Nat} {v : VT} (m8 : m ≤ 8) (h : vC P m v) (ht : vT T v) (h0 : v.1 = 0) : ∃ b, X8_differs_L16 n n T 1 = some (b, T) ∧ X4_wholeUnlike n P = some b := by
  obtain ⟨b, b1, b2, -⟩ := dif_loop n hn m8 h ht h0 200 1 n n (by omega) (by omega) (by omega)
  exact ⟨b, b1, b2 (fun f f1 f2 f3 => by omega)⟩
