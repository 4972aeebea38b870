/-! ENDINGS: the reference -/
theorem kn_j33 (n : Nat) {R S : am_M} {h : Nat} {b : Bool} {s0 : Int32} {kont : Int32 → Int32 → Int32 → Option Int32} (hh : h < 8) (hST : R 15 (8 * h + 1) = S 1 (13 * h + 1)) : X8_kindNow_J33 n R kont (b2i b) (nI h) s0 = kont s0 (b2i (b || decide (S 1 (13 * h + 1) = 1))) (nI (h + 1)) := by
  unfold X8_kindNow_J33 X8_kindNow_J48 X8_kindNow_J53
  rw [b2i_c, nI_1]
  cases b
  · rw [if_neg (by decide), X8_o1 hh, hST]
    dsimp only [Option.bind]
    by_cases q : S 1 (13 * h + 1) = 1
    · rw [if_pos q, decide_eq_true q]; rfl
    · rw [if_neg q, decide_eq_false q]; rfl
  · rw [if_pos rfl]; rfl
theorem or_ne0 : ∀ b, b < 256 → ∀ h, h < 8 → b ||| 2 ^ h ≠ 0 := by decide +kernel
theorem kn_loop (n : Nat) {R S : am_M} {m : Nat} (m8 : m ≤ 8) (h3 : R 0 3 = nI m) (hAT : ∀ h, h < m → R 15 (8 * h + 0) = S 1 (13 * h + 0)) (hST : ∀ h, h < m → R 15 (8 * h + 1) = S 1 (13 * h + 1)) : ∀ (d h K : Nat), h + d = m → d < K → X8_kindNow_L6 n R K (b2i (decide (ubn S h = 0))) (b2i (stq S h)) (nI h) = some (knd S m) := by
  intro d
  induction d with
  | zero =>
    intro h K hh hK
    obtain ⟨K, rfl⟩ : ∃ J, K = J + 1 := ⟨K - 1, by omega⟩
    have e : h = m := by omega
    subst e
    simp only [X8_kindNow_L6, X8_kindNow_B6]
    rw [h3, if_pos (Int32.le_refl _), b2i_c, b2i_c]
    unfold knd
    by_cases q : ubn S h = 0
    · rw [if_pos (decide_eq_true q), if_pos q]
    · rw [if_neg (by rw [decide_eq_true_eq]; exact q), if_neg q]
      split <;> rfl
  | succ d ih =>
    intro h K hh hK
    obtain ⟨K, rfl⟩ : ∃ J, K = J + 1 := ⟨K - 1, by omega⟩
    have I := ih (h + 1) K (by omega) (by omega)
    simp only [X8_kindNow_L6, X8_kindNow_B6, X8_kindNow_J32]
    rw [h3, if_neg (by rw [pu_le (by omega) (by omega)]; omega), b2i_c, kn_j33 n (by omega) (hST h (by omega)), kn_j33 n (by omega) (hST h (by omega)), X8_o0 (by omega), hAT h (by omega)]
    dsimp only [Option.bind]
    have e1 : (stq S h || decide (S 1 (13 * h + 1) = 1)) = stq S (h + 1) := rfl
    rw [e1]
    have hu : ubn S (h + 1) = if S 1 (13 * h + 0) = -1 then ubn S h else ubn S h ||| 2 ^ h := rfl
    by_cases q : ubn S h = 0
    · rw [if_pos (decide_eq_true q)]
      by_cases z : S 1 (13 * h + 0) = -1
      · rw [if_pos z]
        rw [if_pos z] at hu
        rw [show decide (ubn S (h + 1) = 0) = true from decide_eq_true (by rw [hu]; exact q)] at I
        exact I
      · rw [if_neg z]
        rw [if_neg z] at hu
        rw [show decide (ubn S (h + 1) = 0) = false from decide_eq_false (by rw [hu]; exact or_ne0 _ (ubn_lt h (by omega)) h (by omega))] at I
        exact I
    · rw [if_neg (by rw [decide_eq_true_eq]; exact q)]
      have : ubn S (h + 1) ≠ 0 := by
        rw [hu]
        split
        · exact q
        · exact or_ne0 _ (ubn_lt h (by omega)) h (by omega)
      rw [show decide (ubn S (h + 1) = 0) = false from decide_eq_false this] at I
      exact I
theorem kindNow_eq (n : Nat) (hn : 2200 < n) {R S : am_M} {m : Nat} (m8 : m ≤ 8) (h3 : R 0 3 = nI m) (hAT : ∀ h, h < m → R 15 (8 * h + 0) = S 1 (13 * h + 0)) (hST : ∀ h, h < m → R 15 (8 * h + 1) = S 1 (13 * h + 1)) : X8_kindNow n R = some (knd S m) := by
  have := kn_loop n m8 h3 hAT hST m 0 n (by omega) (by omega)
  rw [nI_0] at this
  exact this
theorem cmpR_loop (n : Nat) {R : am_M} {g : Nat → Int32} {x y : Nat} (hx : x ≤ 200) (hy : y ≤ 200) : ∀ (d c K : Nat), c + d = 11 → d < K → X8_compare_L2 n (am_sub (sC R 25 g) 25) K (nI (11 * x)) (nI (11 * y)) (nI c) = some (lx (fun c => g (11 * x + c)) (fun c => g (11 * y + c)) c d) := by
  intro d
  induction d with
  | zero =>
    intro c K hc hK
    obtain ⟨K, rfl⟩ : ∃ J, K = J + 1 := ⟨K - 1, by omega⟩
    simp only [X8_compare_L2, X8_compare_B2, lx]
    rw [if_pos (show (11 : Int32) ≤ nI c by rw [show (11 : Int32) = nI 11 from rfl, pu_le (by omega) (by omega)]; omega)]
  | succ d ih =>
    intro c K hc hK
    obtain ⟨K, rfl⟩ : ∃ J, K = J + 1 := ⟨K - 1, by omega⟩
    simp only [X8_compare_L2, X8_compare_B2, lx]
    rw [if_neg (show ¬ (11 : Int32) ≤ nI c by rw [show (11 : Int32) = nI 11 from rfl, pu_le (by omega) (by omega)]; omega), nI_add, nI_add, if_neg (pu_g (n := 2211) (by omega) (by omega)), if_neg (pu_g (n := 2211) (by omega) (by omega)), if_neg (pu_g (n := 2211) (by omega) (by omega)), if_neg (pu_g (n := 2211) (by omega) (by omega)), nI_clamp (by omega), nI_clamp (by omega), nI_1]
    show (if g (11 * x + c) = g (11 * y + c) then _ else if g (11 * y + c) ≤ g (11 * x + c) then some 1 else some (-1)) = _
    by_cases q : g (11 * x + c) = g (11 * y + c)
    · rw [if_pos q, if_pos q]
      exact ih (c + 1) K (by omega) (by omega)
    · rw [if_neg q, if_neg q]
      by_cases l : g (11 * x + c) < g (11 * y + c)
      · rw [if_pos l, if_neg (by
          rw [Int32.lt_iff_toInt_lt] at l
          rw [Int32.le_iff_toInt_le]; omega)]
      · rw [if_neg l, if_pos (by
          rw [Int32.lt_iff_toInt_lt] at l
          rw [Int32.le_iff_toInt_le]; omega)]
theorem cmpR_eq (n : Nat) (hn : 2200 < n) {R : am_M} {g r r' : Nat → Int32} {x y : Nat} (hx : x ≤ 200) (hy : y ≤ 200) (h1 : ∀ c, c < 11 → g (11 * x + c) = r c) (h2 : ∀ c, c < 11 → g (11 * y + c) = r' c) : X8_compare n (am_sub (sC R 25 g) 25) (nI (11 * x)) (nI (11 * y)) = some (lx r r' 0 11) := by
  have := cmpR_loop n (R := R) (g := g) hx hy 11 0 n (by omega) (by omega)
  rw [nI_0] at this
  unfold X8_compare
  rw [this, lx_congr (f' := r) (g' := r') 11 0 (fun c q1 q2 => ⟨h1 c (by omega), h2 c (by omega)⟩)]
theorem swapR (n : Nat) {R : am_M} {k : Nat} {k119 : am_M → Int32 → Option am_M} (hk : k + 1 ≤ 200) : ∀ (d c K : Nat) (g : Nat → Int32), c + d = 11 → d < K → ∃ g', X8_showEnding_L146 n k119 K (sC R 25 g) (nI (k + 1)) (nI c) = k119 (sC R 25 g') (nI k) ∧ (∀ x, x < 11 * k ∨ 11 * k + 22 ≤ x → g' x = g x) ∧ (∀ j, j < c → g' (11 * k + j) = g (11 * k + j) ∧ g' (11 * k + 11 + j) = g (11 * k + 11 + j)) ∧ ∀ j, c ≤ j → j < 11 → g' (11 * k + j) = g (11 * k + 11 + j) ∧ g' (11 * k + 11 + j) = g (11 * k + j) := by
  intro d
  induction d with
  | zero =>
    intro c K g hc hK
    obtain ⟨K, rfl⟩ : ∃ J, K = J + 1 := ⟨K - 1, by omega⟩
    refine ⟨g, ?_, fun _ _ => rfl, fun _ _ => ⟨rfl, rfl⟩, fun j h1 h2 => by omega⟩
    simp only [X8_showEnding_L146, X8_showEnding_B146]
    rw [if_pos (show (11 : Int32) ≤ nI c by rw [show (11 : Int32) = nI 11 from rfl, pu_le (by omega) (by omega)]; omega), nI_m1]
  | succ d ih =>
    intro c K g hc hK
    obtain ⟨K, rfl⟩ : ∃ J, K = J + 1 := ⟨K - 1, by omega⟩
    simp only [X8_showEnding_L146, X8_showEnding_B146]
    rw [if_neg (show ¬ (11 : Int32) ≤ nI c by rw [show (11 : Int32) = nI 11 from rfl, pu_le (by omega) (by omega)]; omega), sub1, show (11 : Int32) * nI (k + 1) = nI (11 * (k + 1)) from pk_mul 11 (k + 1), show (11 : Int32) * nI k = nI (11 * k) from pk_mul 11 k, nI_add, nI_add, if_neg (pu_g (n := 2211) (by omega) (by omega)), if_neg (pu_g (n := 2211) (by omega) (by omega)), if_neg (pu_g (n := 2211) (by omega) (by omega)), if_neg (pu_g (n := 2211) (by omega) (by omega)), nI_clamp (by omega), nI_clamp (by omega), nI_1, sC_sC, show 11 * (k + 1) + c = 11 * k + 11 + c by omega]
    obtain ⟨g', e1, e2, e3, e4⟩ := ih (c + 1) K (upd (upd g (11 * k + 11 + c) (g (11 * k + c))) (11 * k + c) (g (11 * k + 11 + c))) (by omega) (by omega)
    refine ⟨g', e1, fun x hx => ?_, fun j hj => ?_, fun j h1 h2 => ?_⟩
    · rw [e2 x hx, upd_ne (by omega), upd_ne (by omega)]
    · obtain ⟨q1, q2⟩ := e3 j (by omega)
      rw [q1, q2, upd_ne (by omega), upd_ne (by omega), upd_ne (by omega), upd_ne (by omega)]
      exact ⟨rfl, rfl⟩
    · by_cases z : j = c
      · subst z
        obtain ⟨q1, q2⟩ := e3 j (by omega)
        rw [q1, q2, upd_eq, upd_ne (by omega), upd_eq]
        exact ⟨rfl, rfl⟩
      · obtain ⟨q1, q2⟩ := e4 j (by omega) h2
        rw [q1, q2, upd_ne (by omega), upd_ne (by omega), upd_ne (by omega), upd_ne (by omega)]
        exact ⟨rfl, rfl⟩
theorem shiftR (n : Nat) {R : am_M} {F : Nat} (hF : F ≤ 199) (h51 : R 0 51 = nI F) : ∀ (d x K : Nat) (g : Nat → Int32), x + d = 11 * F → d < K → ∃ g', X8_showEnding_L274 n K (sC R 25 g) (nI x) = some (sC R 25 g') ∧ (∀ y, y < x → g' y = g y) ∧ ∀ y, x ≤ y → y < 11 * F → g' y = g (y + 11) := by
  intro d
  induction d with
  | zero =>
    intro x K g hx hK
    obtain ⟨K, rfl⟩ : ∃ J, K = J + 1 := ⟨K - 1, by omega⟩
    refine ⟨g, ?_, fun _ _ => rfl, fun y h1 h2 => by omega⟩
    simp only [X8_showEnding_L274, X8_showEnding_B274]
    rw [show (sC R 25 g) 0 51 = nI F from h51, show (11 : Int32) * nI F = nI (11 * F) from pk_mul 11 F, if_pos (by rw [pu_le (by omega) (by omega)]; omega)]
  | succ d ih =>
    intro x K g hx hK
    obtain ⟨K, rfl⟩ : ∃ J, K = J + 1 := ⟨K - 1, by omega⟩
    simp only [X8_showEnding_L274, X8_showEnding_B274]
    rw [show (sC R 25 g) 0 51 = nI F from h51, show (11 : Int32) * nI F = nI (11 * F) from pk_mul 11 F, if_neg (by rw [pu_le (by omega) (by omega)]; omega), show (11 : Int32) = nI 11 from rfl, nI_add, if_neg (pu_g (n := 2211) (by omega) (by omega)), if_neg (pu_g (n := 2211) (by omega) (by omega)), nI_clamp (by omega), nI_clamp (by omega), nI_1, sC_sC]
    obtain ⟨g', e1, e2, e3⟩ := ih (x + 1) K (upd g x (g (x + 11))) (by omega) (by omega)
    refine ⟨g', e1, fun y hy => ?_, fun y h1 h2 => ?_⟩
    · rw [e2 y (by omega), upd_ne (by omega)]
    · by_cases z : y = x
      · subst z
        rw [e2 y (by omega), upd_eq]
      · rw [e3 y (by omega) h2, upd_ne (by omega)]
/-- rows of ENDINGS in the reference -/
def rws (g : Nat → Int32) (row : Nat → Nat → Int32) (o : Nat → Nat) (F : Nat) : Prop := ∀ e, e < F → ∀ c, c < 11 → g (11 * e + c) = row (o e) c
theorem bubR (n : Nat) (hn : 2200 < n) {R : am_M} {row : Nat → Nat → Int32} {o : Nat → Nat} {F q : Nat} {r : Nat → Int32} (hF : F ≤ 199) (hgt : ∀ e, q ≤ e → e < F → lx (row (o e)) r 0 11 = 1) (hq0 : q ≤ F) (hle : 0 < q → lx (row (o (q - 1))) r 0 11 = 0 ∨ lx (row (o (q - 1))) r 0 11 = -1) : ∀ (d K : Nat) (g : Nat → Int32), q + d ≤ F → d < K → (∀ e, e < q + d → ∀ c, c < 11 → g (11 * e + c) = row (o e) c) → (∀ c, c < 11 → g (11 * (q + d) + c) = r c) → (∀ e, q + d < e → e ≤ F → ∀ c, c < 11 → g (11 * e + c) = row (o (e - 1)) c) →
    ∃ g', X8_showEnding_L119 n K (sC R 25 g) (nI (q + d)) = X8_showEnding_J221 n (sC R 25 g') (nI q) ∧ (∀ e, e < q → ∀ c, c < 11 → g' (11 * e + c) = row (o e) c) ∧ (∀ c, c < 11 → g' (11 * q + c) = r c) ∧ ∀ e, q < e → e ≤ F → ∀ c, c < 11 → g' (11 * e + c) = row (o (e - 1)) c := by
  intro d
  induction d with
  | zero =>
    intro K g hq hK h1 h2 h3
    obtain ⟨K, rfl⟩ : ∃ J, K = J + 1 := ⟨K - 1, by omega⟩
    refine ⟨g, ?_, h1, h2, h3⟩
    simp only [X8_showEnding_L119, X8_showEnding_B119, Nat.add_zero]
    by_cases z : q = 0
    · subst z
      rw [if_pos (show nI 0 ≤ 0 from Int32.le_refl _)]
    · obtain ⟨w, rfl⟩ : ∃ w, q = w + 1 := ⟨q - 1, by omega⟩
      have hc := cmpR_eq n hn (R := R) (g := g) (r := row (o w)) (r' := r) (x := w) (y := w + 1) (by omega) (by omega) (h1 w (by omega)) h2
      rw [if_neg (nI_nle (by omega) (by omega)), sub1, show (11 : Int32) * nI w = nI (11 * w) from pk_mul 11 w, show (11 : Int32) * nI (w + 1) = nI (11 * (w + 1)) from pk_mul 11 (w + 1), hc]
      dsimp only [Option.bind]
      rw [if_pos (by
        rcases hle (by omega) with y | y <;> rw [show w + 1 - 1 = w by omega] at y <;> rw [y] <;> decide)]
  | succ d ih =>
    intro K g hq hK h1 h2 h3
    obtain ⟨K, rfl⟩ : ∃ J, K = J + 1 := ⟨K - 1, by omega⟩
    have hc := cmpR_eq n hn (R := R) (g := g) (r := row (o (q + d))) (r' := r) (x := q + d) (y := q + d + 1) (by omega) (by omega) (h1 (q + d) (by omega)) h2
    obtain ⟨g1, e1, e2, e3, e4⟩ := swapR n (R := R) (k := q + d) (k119 := X8_showEnding_L119 n K) (by omega) 11 0 n g (by omega) (by omega)
    obtain ⟨g', f1, f2, f3, f4⟩ := ih K g1 (by omega) (by omega) (fun e he c hc => by
      rw [e2 _ (by omega)]
      exact h1 e (by omega) c hc) (fun c hc => by
      rw [(e4 c (Nat.zero_le _) hc).1, show 11 * (q + d) + 11 + c = 11 * (q + (d + 1)) + c by omega]
      exact h2 c hc) (fun e he1 he2 c hc => by
      by_cases z : e = q + d + 1
      · subst z
        rw [show 11 * (q + d + 1) + c = 11 * (q + d) + 11 + c by omega, (e4 c (Nat.zero_le _) hc).2, h1 (q + d) (by omega) c hc]
        rfl
      · rw [e2 _ (by omega)]
        exact h3 e (by omega) he2 c hc)
    refine ⟨g', ?_, f2, f3, f4⟩
    rw [nI_0] at e1
    simp only [X8_showEnding_L119, X8_showEnding_B119]
    rw [show q + (d + 1) = q + d + 1 by omega, if_neg (nI_nle (by omega) (by omega)), sub1, show (11 : Int32) * nI (q + d) = nI (11 * (q + d)) from pk_mul 11 (q + d), show (11 : Int32) * nI (q + d + 1) = nI (11 * (q + d + 1)) from pk_mul 11 (q + d + 1), hc]
    dsimp only [Option.bind]
    rw [if_neg (by rw [hgt (q + d) (by omega) (by omega)]; decide), e1]
    exact f1
/-- the row is written -/
theorem showW (n : Nat) (hn : 2200 < n) {R S : am_M} {m M E : Nat} (m8 : m ≤ 8) (hE : E ≤ 200) (h3 : R 0 3 = nI m) (h51 : R 0 51 = nI E) (hAT : ∀ h, h < m → R 15 (8 * h + 0) = S 1 (13 * h + 0)) (hTo : ∀ h, h < m → R 15 (8 * h + 7) = S 1 (13 * h + 9)) (h64 : R 15 64 = nI M) : ∀ (d h K : Nat) (g : Nat → Int32), h + d = 8 → d < K → ∃ g', X8_showEnding_L22 n K (sC R 25 g) (nI (11 * E)) (nI (ubn S (min h m))) (nI h) = X8_showEnding_L119 n n (sC R 25 g') (nI E) ∧ (∀ x, x < 11 * E + 1 + h → g' x = g x) ∧ (∀ j, h ≤ j → j < 8 → g' (11 * E + 1 + j) = if j < m then S 1 (13 * j + 9) else 0) ∧ g' (11 * E + 9) = nI M ∧ g' (11 * E + 10) = nI (ubn S m) := by
  intro d
  induction d with
  | zero =>
    intro h K g hh hK
    obtain ⟨K, rfl⟩ : ∃ J, K = J + 1 := ⟨K - 1, by omega⟩
    have e : h = 8 := by omega
    subst e
    refine ⟨upd (upd g (11 * E + 9) (nI M)) (11 * E + 10) (nI (ubn S m)), ?_, fun x hx => by rw [upd_ne (by omega), upd_ne (by omega)], fun j h1 h2 => by omega, by rw [upd_ne (by omega), upd_eq], upd_eq⟩
    simp only [X8_showEnding_L22, X8_showEnding_B22]
    rw [if_pos (show (8 : Int32) ≤ nI 8 from Int32.le_refl _), show (9 : Int32) = nI 9 from rfl, show (10 : Int32) = nI 10 from rfl, nI_add, nI_add, if_neg (pu_g (n := 2211) (by omega) (by omega)), if_neg (pu_g (n := 2211) (by omega) (by omega)), nI_clamp (by omega), nI_clamp (by omega), sC_sC, show X8_words (sC R 25 g) = nI M from h64, show (sC R 25 g) 0 51 = nI E from h51, show min 8 m = m by omega]
  | succ d ih =>
    intro h K g hh hK
    obtain ⟨K, rfl⟩ : ∃ J, K = J + 1 := ⟨K - 1, by omega⟩
    have h8 : h < 8 := by omega
    simp only [X8_showEnding_L22, X8_showEnding_B22, X8_showEnding_J56, X8_showEnding_J82, X8_showEnding_J83]
    rw [if_neg (show ¬ (8 : Int32) ≤ nI h by rw [show (8 : Int32) = nI 8 from rfl, pu_le (by omega) (by omega)]; omega), show (sC R 25 g) 0 3 = nI m from h3]
    by_cases hm : h < m
    · rw [if_neg (by rw [pu_le (by omega) (by omega)]; omega), X8_o7 h8, show (sC R 25 g) 15 (8 * h + 7) = S 1 (13 * h + 9) from hTo h hm]
      dsimp only [Option.bind]
      rw [nI_1, nI_add, if_neg (pu_g (n := 2211) (by omega) (by omega)), nI_clamp (by omega), if_neg (by rw [pu_le (by omega) (by omega)]; omega), X8_o0 h8, show (sC R 25 (upd g (11 * E + 1 + h) (S 1 (13 * h + 9)))) 15 (8 * h + 0) = S 1 (13 * h + 0) from hAT h hm]
      dsimp only
      obtain ⟨g', e1, e2, e3, e4⟩ := ih (h + 1) K (upd g (11 * E + 1 + h) (S 1 (13 * h + 9))) (by omega) (by omega)
      have hb := (bit_or (ubn S h) (ubn_lt h (by omega)) h h8).1
      rw [show min (h + 1) m = h + 1 by omega] at e1
      simp only [ubn] at e1
      rw [show min h m = h by omega, Int32.or_zero, nI_1, sC_sC]
      refine ⟨g', ?_, fun x hx => by rw [e2 x (by omega), upd_ne (by omega)], fun j h1 h2 => ?_, e4⟩
      · by_cases z : S 1 (13 * h + 0) = -1
        · rw [if_pos z]
          rw [if_pos z] at e1
          exact e1
        · rw [if_neg z, hb]
          rw [if_neg z] at e1
          exact e1
      · by_cases z : j = h
        · subst z
          rw [e2 _ (by omega), upd_eq, if_pos hm]
        · exact e3 j (by omega) h2
    · rw [if_pos (by rw [pu_le (by omega) (by omega)]; omega), nI_1, nI_add, if_neg (pu_g (n := 2211) (by omega) (by omega)), nI_clamp (by omega), if_pos (by rw [pu_le (by omega) (by omega)]; omega), Int32.or_zero, nI_1, sC_sC]
      obtain ⟨g', e1, e2, e3, e4⟩ := ih (h + 1) K (upd g (11 * E + 1 + h) 0) (by omega) (by omega)
      rw [show min (h + 1) m = m by omega] at e1
      rw [show min h m = m by omega]
      refine ⟨g', e1, fun x hx => by rw [e2 x (by omega), upd_ne (by omega)], fun j h1 h2 => ?_, e4⟩
      by_cases z : j = h
      · subst z
        rw [e2 _ (by omega), upd_eq, if_neg hm]
      · exact e3 j (by omega) h2
