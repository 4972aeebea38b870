/-! KEEPING: the reference -/
/-- an 'if' over any proposition -/
noncomputable def ifP {α : Type} (p : Prop) (x y : α) : α := @ite α p (Classical.propDecidable p) x y
theorem ifP_pos {α : Type} {p : Prop} {x y : α} (h : p) : ifP p x y = x := if_pos h
theorem ifP_neg {α : Type} {p : Prop} {x y : α} (h : ¬ p) : ifP p x y = y := if_neg h
def mkF (f : Nat → Int32) : Int32 → Nat → Nat → Int32
  | a, _, 0 => a
  | a, i, k + 1 => mkF f (31 * a + f i) (i + 1) k
theorem mkF_congr {f g : Nat → Int32} : ∀ (k i : Nat) (a : Int32), (∀ x, i ≤ x → x < i + k → f x = g x) → mkF f a i k = mkF g a i k := by
  intro k
  induction k with
  | zero => intro i a _; rfl
  | succ k ih =>
    intro i a h
    simp only [mkF]
    rw [h i (Nat.le_refl _) (by omega)]
    exact ih (i + 1) _ (fun x h1 h2 => h x (by omega) (by omega))
theorem kr_mark (n : Nat) {R : am_M} {u : Nat} (hu : u ≤ 1985) : ∀ (d j K : Nat) (a : Int32), j + d = u → d < K → X8_keep_L16 n K R (nI u) a (nI j) = X8_keep_L41 n n R (nI u) (mkF (R 15) a j d) 0 := by
  intro d
  induction d with
  | zero =>
    intro j K a hj hK
    obtain ⟨K, rfl⟩ : ∃ J, K = J + 1 := ⟨K - 1, by omega⟩
    simp only [X8_keep_L16, X8_keep_B16, mkF]
    rw [if_pos (by rw [pu_le (by omega) (by omega)]; omega)]
  | succ d ih =>
    intro j K a hj hK
    obtain ⟨K, rfl⟩ : ∃ J, K = J + 1 := ⟨K - 1, by omega⟩
    simp only [X8_keep_L16, X8_keep_B16, mkF]
    rw [if_neg (by rw [pu_le (by omega) (by omega)]; omega), if_neg (pu_g (n := 1985) (by omega) (by omega)), nI_clamp (by omega), nI_1]
    exact ih (j + 1) K _ (by omega) (by omega)
theorem kr_cmp0 (n : Nat) {R : am_M} {u i j K : Nat} {mk : Int32} {kont : am_M → Int32 → Int32 → Int32 → Option am_M} (hK : 0 < K) : X8_keep_L77 n kont K R (nI u) mk (nI i) 0 (nI j) = kont R (nI u) mk (nI i + 1) := by
  obtain ⟨K, rfl⟩ : ∃ J, K = J + 1 := ⟨K - 1, by omega⟩
  simp only [X8_keep_L77, X8_keep_B77, X8_keep_J124, X8_keep_J130]
  split <;> rfl
theorem kr_cmp (n : Nat) {R : am_M} {u i : Nat} {mk : Int32} {kont : am_M → Int32 → Int32 → Int32 → Option am_M} (hu : u ≤ 1985) (hi : i < 200) : ∀ (d j K : Nat), j + d = u → d < K → X8_keep_L77 n kont K R (nI u) mk (nI i) 1 (nI j) = ifP (∀ x, j ≤ x → x < u → R 21 (1985 * i + x) = R 15 x) (some R) (kont R (nI u) mk (nI i + 1)) := by
  intro d
  induction d with
  | zero =>
    intro j K hj hK
    obtain ⟨K, rfl⟩ : ∃ J, K = J + 1 := ⟨K - 1, by omega⟩
    rw [ifP_pos (fun x h1 h2 => by omega)]
    simp only [X8_keep_L77, X8_keep_B77, X8_keep_J124]
    rw [if_pos (by rw [pu_le (by omega) (by omega)]; omega), if_neg (by decide)]
  | succ d ih =>
    intro j K hj hK
    obtain ⟨K, rfl⟩ : ∃ J, K = J + 1 := ⟨K - 1, by omega⟩
    simp only [X8_keep_L77, X8_keep_B77, X8_keep_J116]
    rw [if_neg (by rw [pu_le (by omega) (by omega)]; omega), if_neg (by decide), show (1985 : Int32) * nI i = nI (1985 * i) from pk_mul 1985 i, nI_add, if_neg (pu_g (n := 397000) (by omega) (by omega)), if_neg (pu_g (n := 1985) (by omega) (by omega)), nI_clamp (by omega), nI_clamp (by omega), nI_1]
    by_cases e : R 21 (1985 * i + j) = R 15 j
    · rw [if_pos e, ih (j + 1) K (by omega) (by omega)]
      by_cases q : ∀ x, j + 1 ≤ x → x < u → R 21 (1985 * i + x) = R 15 x
      · rw [ifP_pos q, ifP_pos (fun x h1 h2 => by
          by_cases r : x = j
          · subst r; exact e
          · exact q x (by omega) h2)]
      · rw [ifP_neg q, ifP_neg (fun r => q (fun x h1 h2 => r x (by omega) h2))]
    · rw [if_neg e, kr_cmp0 n (by omega), ifP_neg (fun q => e (q j (Nat.le_refl _) (by omega)))]
theorem kr_store (n : Nat) {u s : Nat} {mk : Int32} (hu : u ≤ 1985) (hs : s < 200) : ∀ (d j K : Nat) (R : am_M), j + d = u → d < K → R 0 46 = nI s → ∃ g, X8_keep_L154 n K R (nI u) mk (nI j) = some (sC (sC (sC R 21 g) 0 (am_u (R 0) 46 (nI (s + 1)))) 22 (upd (R 22) s mk)) ∧ (∀ x, x < 1985 * s + j → g x = R 21 x) ∧ ∀ x, j ≤ x → x < u → g (1985 * s + x) = R 15 x := by
  intro d
  induction d with
  | zero =>
    intro j K R hj hK hR
    obtain ⟨K, rfl⟩ : ∃ J, K = J + 1 := ⟨K - 1, by omega⟩
    refine ⟨R 21, ?_, fun _ _ => rfl, fun x h1 h2 => by omega⟩
    simp only [X8_keep_L154, X8_keep_B154]
    rw [if_pos (by rw [pu_le (by omega) (by omega)]; omega), hR, if_neg (pu_g (n := 201) (by omega) (by omega)), nI_clamp (by omega), nI_1, sC_self]
  | succ d ih =>
    intro j K R hj hK hR
    obtain ⟨K, rfl⟩ : ∃ J, K = J + 1 := ⟨K - 1, by omega⟩
    simp only [X8_keep_L154, X8_keep_B154]
    rw [if_neg (by rw [pu_le (by omega) (by omega)]; omega), hR, if_neg (pu_g (n := 1985) (by omega) (by omega)), show (1985 : Int32) * nI s = nI (1985 * s) from pk_mul 1985 s, nI_add, if_neg (pu_g (n := 397000) (by omega) (by omega)), nI_clamp (by omega), nI_clamp (by omega), nI_1]
    obtain ⟨g, e1, e2, e3⟩ := ih (j + 1) K (sC R 21 (upd (R 21) (1985 * s + j) (R 15 j))) (by omega) (by omega) hR
    rw [sC_sC] at e1
    refine ⟨g, e1, fun x hx => ?_, fun x h1 h2 => ?_⟩
    · rw [e2 x (by omega)]
      exact upd_ne (by omega)
    · by_cases q : x = j
      · subst q
        rw [e2 _ (by omega)]
        exact upd_eq
      · exact e3 x (by omega) h2
/-- whether the STATE now stands already at i -/
theorem kr_find (n : Nat) (hn : 2200 < n) {R : am_M} {s M : Nat} {mk : Int32} {σf : Nat → am_M} {Mf : Nat → Nat} (hs : s ≤ 200) (h46 : R 0 46 = nI s) (hM : M ≤ 320) (hmk : mk = mkF (R 15) 7 0 (65 + 6 * M)) (hst : ∀ i, i < s → snR R i (Mf i) (σf i) ∧ σf i 15 64 = nI (Mf i) ∧ Mf i ≤ 320 ∧ R 22 i = mkF (σf i 15) 7 0 (65 + 6 * Mf i)) : ∀ (d i K : Nat), i + d = s → d < K → ((∃ j, i ≤ j ∧ j < s ∧ Mf j = M ∧ eqR (σf j) R M) → X8_keep_L41 n K R (nI (65 + 6 * M)) mk (nI i) = some R) ∧ ((∀ j, i ≤ j → j < s → ¬ (Mf j = M ∧ eqR (σf j) R M)) → X8_keep_L41 n K R (nI (65 + 6 * M)) mk (nI i) = if nI s = 200 then some (sC R 0 (am_u (R 0) 48 1)) else X8_keep_L154 n n R (nI (65 + 6 * M)) mk 0) := by
  intro d
  induction d with
  | zero =>
    intro i K hi hK
    obtain ⟨K, rfl⟩ : ∃ J, K = J + 1 := ⟨K - 1, by omega⟩
    refine ⟨fun ⟨j, h1, h2, _⟩ => by omega, fun _ => ?_⟩
    simp only [X8_keep_L41, X8_keep_B41]
    rw [h46, if_pos (by rw [pu_le (by omega) (by omega)]; omega)]
  | succ d ih =>
    intro i K hi hK
    obtain ⟨K, rfl⟩ : ∃ J, K = J + 1 := ⟨K - 1, by omega⟩
    obtain ⟨b1, b2, b3, b4⟩ := hst i (by omega)
    obtain ⟨i1, i2⟩ := ih (i + 1) K (by omega) (by omega)
    have hno : ¬ (Mf i = M ∧ eqR (σf i) R M) → ((∃ j, i ≤ j ∧ j < s ∧ Mf j = M ∧ eqR (σf j) R M) → ∃ j, i + 1 ≤ j ∧ j < s ∧ Mf j = M ∧ eqR (σf j) R M) := by
      rintro q ⟨j, h1, h2, h3⟩
      by_cases e : j = i
      · subst e; exact absurd h3 q
      · exact ⟨j, by omega, h2, h3⟩
    have key : X8_keep_L41 n (K + 1) R (nI (65 + 6 * M)) mk (nI i) = ifP (Mf i = M ∧ eqR (σf i) R M) (some R) (X8_keep_L41 n K R (nI (65 + 6 * M)) mk (nI (i + 1))) := by
      simp only [X8_keep_L41, X8_keep_B41, X8_keep_J130]
      rw [h46, if_neg (by rw [pu_le (by omega) (by omega)]; omega), if_neg (pu_g (n := 201) (by omega) (by omega)), nI_clamp (by omega), nI_1]
      by_cases e : R 22 i = mk
      · rw [if_pos e, used_eq (by omega) b3 b1 b2]
        dsimp only [Option.bind]
        by_cases e2 : Mf i = M
        · have hk := kr_cmp n (R := R) (u := 65 + 6 * M) (i := i) (mk := mk) (kont := X8_keep_L41 n K) (by omega) (by omega) (65 + 6 * M) 0 n (by omega) (by omega)
          rw [nI_0, nI_1] at hk
          rw [if_pos (by rw [e2]), hk]
          by_cases e3 : eqR (σf i) R M
          · rw [ifP_pos (show Mf i = M ∧ eqR (σf i) R M from ⟨e2, e3⟩), ifP_pos (fun x _ hx => by rw [b1 x (by omega), e3 x hx])]
          · rw [ifP_neg (show ¬ (Mf i = M ∧ eqR (σf i) R M) from fun q => e3 q.2), ifP_neg (fun q => e3 (fun x hx => by rw [← b1 x (by omega)]; exact (q x (Nat.zero_le _) hx).symm))]
        · rw [if_neg (fun q => e2 (by have := (nI_eq (by omega) (by omega)).mp q; omega)), ifP_neg (show ¬ (Mf i = M ∧ eqR (σf i) R M) from fun q => e2 q.1)]
      · rw [if_neg e, ifP_neg (show ¬ (Mf i = M ∧ eqR (σf i) R M) from fun q => e ?_)]
        rw [b4, hmk, q.1]
        exact mkF_congr _ _ _ (fun x _ hx => (q.2 x (by omega)).symm)
    rw [key]
    refine ⟨fun hx => ?_, fun hx => ?_⟩
    · by_cases q : Mf i = M ∧ eqR (σf i) R M
      · rw [ifP_pos q]
      · rw [ifP_neg q]
        exact i1 (hno q hx)
    · rw [ifP_neg (hx i (Nat.le_refl _) (by omega))]
      exact i2 (fun j h1 h2 => hx j (by omega) h2)
theorem keep_rf (n : Nat) (hn : 2200 < n) {R : am_M} {s M : Nat} {σf : Nat → am_M} {Mf : Nat → Nat} (hs : s ≤ 200) (h46 : R 0 46 = nI s) (hM : M ≤ 320) (h64 : R 15 64 = nI M) (hst : ∀ i, i < s → snR R i (Mf i) (σf i) ∧ σf i 15 64 = nI (Mf i) ∧ Mf i ≤ 320 ∧ R 22 i = mkF (σf i 15) 7 0 (65 + 6 * Mf i)) :
    ((∃ j, j < s ∧ Mf j = M ∧ eqR (σf j) R M) → X8_keep n R = some R) ∧ ((∀ j, j < s → ¬ (Mf j = M ∧ eqR (σf j) R M)) → (s = 200 → X8_keep n R = some (sC R 0 (am_u (R 0) 48 1))) ∧ (s < 200 → ∃ g, X8_keep n R = some (sC (sC (sC R 21 g) 0 (am_u (R 0) 46 (nI (s + 1)))) 22 (upd (R 22) s (mkF (R 15) 7 0 (65 + 6 * M)))) ∧ (∀ x, x < 1985 * s → g x = R 21 x) ∧ ∀ x, x < 65 + 6 * M → g (1985 * s + x) = R 15 x)) := by
  have e : X8_keep n R = X8_keep_L41 n n R (nI (65 + 6 * M)) (mkF (R 15) 7 0 (65 + 6 * M)) (nI 0) := by
    unfold X8_keep
    rw [words_eq h64, ← nI_0]
    exact kr_mark n (by omega) (65 + 6 * M) 0 n 7 (by omega) (by omega)
  obtain ⟨f1, f2⟩ := kr_find n hn (R := R) (M := M) (mk := mkF (R 15) 7 0 (65 + 6 * M)) hs h46 hM rfl hst s 0 n (by omega) (by omega)
  refine ⟨fun ⟨j, h1, h2⟩ => e.trans (f1 ⟨j, Nat.zero_le _, h1, h2⟩), fun hx => ?_⟩
  have f3 := e.trans (f2 (fun j _ h2 => hx j h2))
  refine ⟨fun q => by rw [f3, if_pos (by rw [q]; rfl)], fun q => ?_⟩
  rw [if_neg (by rw [show (200 : Int32) = nI 200 from rfl, pu_eq (by omega) (by omega)]; omega)] at f3
  obtain ⟨g, g1, g2, g3⟩ := kr_store n (mk := mkF (R 15) 7 0 (65 + 6 * M)) (u := 65 + 6 * M) (by omega) q (65 + 6 * M) 0 n R (by omega) (by omega) h46
  rw [nI_0] at g1
  exact ⟨g, f3.trans g1, fun x hx => g2 x (by omega), fun x hx => g3 x (Nat.zero_le _) hx⟩
