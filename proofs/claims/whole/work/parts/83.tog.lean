/-! A MOVE OF ALL TOGETHER -/
def mxF (f : Nat → Int32) : Int32 → Nat → Nat → Int32
  | L, _, 0 => L
  | L, i, k + 1 => mxF f (J9_max_7cf53 L (f i)) (i + 1) k
def smF (f : Nat → Int32) : Int32 → Nat → Nat → Int32
  | T, _, 0 => T
  | T, i, k + 1 => smF f (T + f i) (i + 1) k
def clF (f : Nat → Int32) (L : Int32) (i : Nat) : Nat → Int32 := fun j => if j < i then f j + dl (f j) L + 1 else f j
def wL9 (f8 f9 : Nat → Int32) (L : Int32) (i : Nat) : Nat → Int32 := fun j => if j < i then f9 j + dl (f8 j) L else f9 j
def rwC (k : Nat) (f : Nat → Int32) (v : Nat → Nat) (T : Int32) (i : Nat) : Nat → Int32 := fun x => if k = 7 ∧ x / 13 < i ∧ x % 13 = 2 + v (x / 13) then T else f x
def rwM (k : Nat) (f : Nat → Int32) (v : Nat → Nat) (T : Int32) (i : Nat) : Nat → Int32 := fun x => if k = 7 ∧ x / 8 < i ∧ x % 8 = 2 + v (x / 8) then T else f x
theorem clF_step {f : Nat → Int32} {L : Int32} {i : Nat} : upd (upd (clF f L i) i (clF f L i i + dl (clF f L i i) L)) i (upd (clF f L i) i (clF f L i i + dl (clF f L i i) L) i + 1) = clF f L (i + 1) := by
  funext j
  have e : clF f L i i = f i := if_neg (by omega)
  rw [upd_eq, e]
  unfold upd
  by_cases h : j = i
  · subst h
    rw [if_pos rfl]
    exact (if_pos (by omega)).symm
  · rw [if_neg h, if_neg h]
    unfold clF
    by_cases h2 : j < i
    · rw [if_pos h2, if_pos (by omega)]
    · rw [if_neg h2, if_neg (by omega)]
theorem wL9_step {f8 f9 : Nat → Int32} {L : Int32} {i : Nat} : upd (wL9 f8 f9 L i) i (wL9 f8 f9 L i i + dl (clF f8 L i i) L) = wL9 f8 f9 L (i + 1) := by
  funext j
  have e : clF f8 L i i = f8 i := if_neg (by omega)
  have e2 : wL9 f8 f9 L i i = f9 i := if_neg (by omega)
  rw [e, e2]
  unfold upd
  by_cases h : j = i
  · subst h
    rw [if_pos rfl]
    exact (if_pos (by omega)).symm
  · rw [if_neg h]
    unfold wL9
    by_cases h2 : j < i
    · rw [if_pos h2, if_pos (by omega)]
    · rw [if_neg h2, if_neg (by omega)]
theorem rwC_step {f : Nat → Int32} {v : Nat → Nat} {T : Int32} {i : Nat} (hv : v i < 4) : upd (rwC 7 f v T i) (13 * i + (2 + v i)) T = rwC 7 f v T (i + 1) := by
  funext x
  unfold upd
  by_cases h : x = 13 * i + (2 + v i)
  · subst h
    rw [if_pos rfl]
    have e : (13 * i + (2 + v i)) / 13 = i := by omega
    have e2 : (13 * i + (2 + v i)) % 13 = 2 + v i := by omega
    unfold rwC
    rw [e, e2, if_pos ⟨rfl, by omega, rfl⟩]
  · rw [if_neg h]
    unfold rwC
    by_cases h2 : x / 13 < i ∧ x % 13 = 2 + v (x / 13)
    · rw [if_pos ⟨rfl, h2⟩, if_pos ⟨rfl, by omega, h2.2⟩]
    · rw [if_neg (fun q => h2 q.2), if_neg (fun q => ?_)]
      by_cases h3 : x / 13 = i
      · have := q.2.2
        rw [h3] at this
        omega
      · exact h2 ⟨by omega, q.2.2⟩
theorem rwM_step {f : Nat → Int32} {v : Nat → Nat} {T : Int32} {i : Nat} (hv : v i < 4) : upd (rwM 7 f v T i) (8 * i + (2 + v i)) T = rwM 7 f v T (i + 1) := by
  funext x
  unfold upd
  by_cases h : x = 8 * i + (2 + v i)
  · subst h
    rw [if_pos rfl]
    have e : (8 * i + (2 + v i)) / 8 = i := by omega
    have e2 : (8 * i + (2 + v i)) % 8 = 2 + v i := by omega
    unfold rwM
    rw [e, e2, if_pos ⟨rfl, by omega, rfl⟩]
  · rw [if_neg h]
    unfold rwM
    by_cases h2 : x / 8 < i ∧ x % 8 = 2 + v (x / 8)
    · rw [if_pos ⟨rfl, h2⟩, if_pos ⟨rfl, by omega, h2.2⟩]
    · rw [if_neg (fun q => h2 q.2), if_neg (fun q => ?_)]
      by_cases h3 : x / 8 = i
      · have := q.2.2
        rw [h3] at this
        omega
      · exact h2 ⟨by omega, q.2.2⟩
theorem rwC_6 {k : Nat} {f : Nat → Int32} {v : Nat → Nat} {T : Int32} {i j : Nat} (hk : k ≠ 7) : rwC k f v T i = rwC k f v T j := by
  funext x
  unfold rwC
  rw [if_neg (fun q => hk q.1), if_neg (fun q => hk q.1)]
theorem rwM_6 {k : Nat} {f : Nat → Int32} {v : Nat → Nat} {T : Int32} {i j : Nat} (hk : k ≠ 7) : rwM k f v T i = rwM k f v T j := by
  funext x
  unfold rwM
  rw [if_neg (fun q => hk q.1), if_neg (fun q => hk q.1)]
theorem rwC_0 {k : Nat} {f : Nat → Int32} {v : Nat → Nat} {T : Int32} : rwC k f v T 0 = f := by
  funext x
  unfold rwC
  rw [if_neg (fun q => by omega)]
theorem rwM_0 {k : Nat} {f : Nat → Int32} {v : Nat → Nat} {T : Int32} : rwM k f v T 0 = f := by
  funext x
  unfold rwM
  rw [if_neg (fun q => by omega)]
theorem clF_0 {f : Nat → Int32} {L : Int32} : clF f L 0 = f := by
  funext x
  exact if_neg (by omega)
theorem wL9_0 {f8 f9 : Nat → Int32} {L : Int32} : wL9 f8 f9 L 0 = f9 := by
  funext x
  exact if_neg (by omega)
/-- the class's contents on the way -/
def stT (S : am_M) (c8 c9 f : Nat → Int32) (b : Int32) : am_M := sC (sC (sC (sC S 8 c8) 9 c9) 1 f) 0 (am_u (S 0) 15 b)
theorem stT_8 {S : am_M} {c8 c9 f c : Nat → Int32} {b : Int32} : sC (stT S c8 c9 f b) 8 c = stT S c c9 f b := by
  funext q
  rcases q with _ | _ | _ | _ | _ | _ | _ | _ | _ | _ | q <;> rfl
theorem stT_9 {S : am_M} {c8 c9 f c : Nat → Int32} {b : Int32} : sC (stT S c8 c9 f b) 9 c = stT S c8 c f b := by
  funext q
  rcases q with _ | _ | _ | _ | _ | _ | _ | _ | _ | _ | q <;> rfl
theorem stT_1 {S : am_M} {c8 c9 f c : Nat → Int32} {b : Int32} : sC (stT S c8 c9 f b) 1 c = stT S c8 c9 c b := by
  funext q
  rcases q with _ | _ | _ | _ | _ | _ | _ | _ | _ | _ | q <;> rfl
theorem stT_15 {S : am_M} {c8 c9 f : Nat → Int32} {b b' : Int32} : sC (stT S c8 c9 f b) 0 (am_u ((stT S c8 c9 f b) 0) 15 b') = stT S c8 c9 f b' := by
  funext q
  rcases q with _ | _ | _ | _ | _ | _ | _ | _ | _ | _ | q
  · funext k
    show am_u (am_u (S 0) 15 b) 15 b' k = am_u (S 0) 15 b' k
    by_cases e : k = 15
    · subst e; rfl
    · rw [am_u_ne e, am_u_ne e, am_u_ne e]
  all_goals rfl
theorem stT_self {S : am_M} : stT S (S 8) (S 9) (S 1) (S 0 15) = S := by
  funext q
  rcases q with _ | _ | _ | _ | _ | _ | _ | _ | _ | _ | q
  · funext k
    show am_u (S 0) 15 (S 0 15) k = S 0 k
    by_cases e : k = 15
    · subst e; rfl
    · rw [am_u_ne e]
  all_goals rfl
def stR (σ : am_M) (c17 c18 g : Nat → Int32) : am_M := sC (sC (sC σ 17 c17) 18 c18) 15 g
theorem stR_17 {σ : am_M} {c17 c18 g c : Nat → Int32} : sC (stR σ c17 c18 g) 17 c = stR σ c c18 g := by
  funext q
  simp only [stR, sC_app]
  by_cases h1 : q = 17
  · simp [h1]
  · by_cases h2 : q = 18 <;> by_cases h3 : q = 15 <;> simp [h1, h2, h3]
theorem stR_18 {σ : am_M} {c17 c18 g c : Nat → Int32} : sC (stR σ c17 c18 g) 18 c = stR σ c17 c g := by
  funext q
  simp only [stR, sC_app]
  by_cases h1 : q = 18
  · simp [h1]
  · by_cases h2 : q = 17 <;> by_cases h3 : q = 15 <;> simp [h1, h2, h3]
theorem stR_15 {σ : am_M} {c17 c18 g c : Nat → Int32} : sC (stR σ c17 c18 g) 15 c = stR σ c17 c18 c := by
  funext q
  simp only [stR, sC_app]
  by_cases h1 : q = 15 <;> simp [h1]
theorem stR_self {σ : am_M} : stR σ (σ 17) (σ 18) (σ 15) = σ := by
  funext q
  simp only [stR, sC_app]
  by_cases h1 : q = 17
  · simp [h1]
  · by_cases h2 : q = 18 <;> by_cases h3 : q = 15 <;> simp [h1, h2, h3]
theorem bit_all : ∀ i, i < 8 → nI (2 ^ i - 1) ||| (1 <<< (nI i &&& 31)) = nI (2 ^ (i + 1) - 1) := by decide +kernel
/-- the class's second loop -/
theorem tog_c2 (n : Nat) {S : am_M} {N m k : Nat} {L T : Int32} {t v : Nat → Nat} (m8 : m ≤ 8) (hSm : S 0 1 = nI m) (hk : k = 6 ∨ k = 7) (hN : N ≤ 40) (ht : ∀ j, j < m → t j < N ∧ S 1 (13 * j + 0) = nI (t j) ∧ S 15 (t j) = nI (v j) ∧ v j < 4) : ∀ (d i K : Nat), i + d = m → d < K → X2_goTogether_L50 n K (stT S (clF (S 8) L i) (wL9 (S 8) (S 9) L i) (rwC k (S 1) v T i) (nI (2 ^ i - 1))) (nI k) L T (nI i) = some (stT S (clF (S 8) L m) (wL9 (S 8) (S 9) L m) (rwC k (S 1) v T m) (nI (2 ^ m - 1))) := by
  intro d
  induction d with
  | zero =>
    intro i K hi hK
    obtain ⟨K, rfl⟩ : ∃ J, K = J + 1 := ⟨K - 1, by omega⟩
    have e : i = m := by omega
    subst e
    simp only [X2_goTogether_L50, X2_goTogether_B50]
    rw [show (stT S (clF (S 8) L i) (wL9 (S 8) (S 9) L i) (rwC k (S 1) v T i) (nI (2 ^ i - 1))) 0 1 = nI i from hSm, if_pos (Int32.le_refl _)]
  | succ d ih =>
    intro i K hi hK
    obtain ⟨K, rfl⟩ : ∃ J, K = J + 1 := ⟨K - 1, by omega⟩
    obtain ⟨t1, t2, t3, t4⟩ := ht i (by omega)
    have hone : ∀ f : Nat → Int32, X2_goTogether_J105 n (X2_goTogether_L50 n K) (stT S (clF (S 8) L (i + 1)) (wL9 (S 8) (S 9) L (i + 1)) f (nI (2 ^ i - 1))) (nI k) L T (nI i) = X2_goTogether_L50 n K (stT S (clF (S 8) L (i + 1)) (wL9 (S 8) (S 9) L (i + 1)) f (nI (2 ^ (i + 1) - 1))) (nI k) L T (nI (i + 1)) := by
      intro f
      unfold X2_goTogether_J105 X2_hasDone
      dsimp only [Option.bind]
      rw [stT_15, show (stT S (clF (S 8) L (i + 1)) (wL9 (S 8) (S 9) L (i + 1)) f (nI (2 ^ i - 1))) 0 15 = nI (2 ^ i - 1) from rfl, bit_all i (by omega), nI_1]
    simp only [X2_goTogether_L50, X2_goTogether_B50]
    rw [show (stT S (clF (S 8) L i) (wL9 (S 8) (S 9) L i) (rwC k (S 1) v T i) (nI (2 ^ i - 1))) 0 1 = nI m from hSm, if_neg (by rw [pu_le (by omega) (by omega)]; omega), raise_eq (by omega), stT_8, stT_9]
    dsimp only [Option.bind]
    unfold X2_tick
    dsimp only
    rw [jat_nI (by omega) (by omega), jput_nI (by omega) (by omega), stT_8]
    show (if nI k = 7 then (X2_set (stT S (upd (upd (clF (S 8) L i) i (clF (S 8) L i i + dl (clF (S 8) L i i) L)) i (upd (clF (S 8) L i) i (clF (S 8) L i i + dl (clF (S 8) L i i) L) i + 1)) (upd (wL9 (S 8) (S 9) L i) i (wL9 (S 8) (S 9) L i i + dl (clF (S 8) L i i) L)) (rwC k (S 1) v T i) (nI (2 ^ i - 1))) (nI i) (2 + (jat 40 (S 15) (X2_get (stT S (upd (upd (clF (S 8) L i) i (clF (S 8) L i i + dl (clF (S 8) L i i) L)) i (upd (clF (S 8) L i) i (clF (S 8) L i i + dl (clF (S 8) L i i) L) i + 1)) (upd (wL9 (S 8) (S 9) L i) i (wL9 (S 8) (S 9) L i i + dl (clF (S 8) L i i) L)) (rwC k (S 1) v T i) (nI (2 ^ i - 1))) (nI i) 0))) T).bind (fun q5 => X2_goTogether_J105 n (X2_goTogether_L50 n K) q5 (nI k) L T (nI i)) else X2_goTogether_J105 n (X2_goTogether_L50 n K) (stT S (upd (upd (clF (S 8) L i) i (clF (S 8) L i i + dl (clF (S 8) L i i) L)) i (upd (clF (S 8) L i) i (clF (S 8) L i i + dl (clF (S 8) L i i) L) i + 1)) (upd (wL9 (S 8) (S 9) L i) i (wL9 (S 8) (S 9) L i i + dl (clF (S 8) L i i) L)) (rwC k (S 1) v T i) (nI (2 ^ i - 1))) (nI k) L T (nI i)) = _
    rw [clF_step, wL9_step]
    rcases hk with rfl | rfl
    · rw [if_neg (by decide), hone, rwC_6 (i := i) (j := i + 1) (by omega)]
      exact ih (i + 1) K (by omega) (by omega)
    · rw [if_pos (show nI 7 = 7 from rfl), X2_g0 (by omega), show (stT S (clF (S 8) L (i + 1)) (wL9 (S 8) (S 9) L (i + 1)) (rwC 7 (S 1) v T i) (nI (2 ^ i - 1))) 1 (13 * i + 0) = nI (t i) by
        show rwC 7 (S 1) v T i (13 * i + 0) = _
        unfold rwC
        rw [if_neg (fun q => by have := q.2.1; omega)]
        exact t2, jat_nI (by omega) (by omega), t3, show (2 : Int32) + nI (v i) = nI (2 + v i) from nI_add 2 (v i), X2_set_eq (by omega) (by omega), stT_1]
      dsimp only [Option.bind]
      rw [hone]
      show X2_goTogether_L50 n K (stT S (clF (S 8) L (i + 1)) (wL9 (S 8) (S 9) L (i + 1)) (upd (rwC 7 (S 1) v T i) (13 * i + (2 + v i)) T) (nI (2 ^ (i + 1) - 1))) (nI 7) L T (nI (i + 1)) = _
      rw [rwC_step t4]
      exact ih (i + 1) K (by omega) (by omega)
/-- the class's first loop -/
theorem tog_c1 (n : Nat) {S : am_M} {m k : Nat} (m8 : m ≤ 8) (hSm : S 0 1 = nI m) : ∀ (d i K : Nat) (L T : Int32), i + d = m → d < K → X2_goTogether_L7 n K S (nI k) L T (nI i) = X2_goTogether_L50 n n S (nI k) (mxF (S 8) L i d) (smF (fun j => S 1 (13 * j + 12)) T i d) 0 := by
  intro d
  induction d with
  | zero =>
    intro i K L T hi hK
    obtain ⟨K, rfl⟩ : ∃ J, K = J + 1 := ⟨K - 1, by omega⟩
    simp only [X2_goTogether_L7, X2_goTogether_B7, mxF, smF]
    rw [hSm, if_pos (by rw [pu_le (by omega) (by omega)]; omega)]
  | succ d ih =>
    intro i K L T hi hK
    obtain ⟨K, rfl⟩ : ∃ J, K = J + 1 := ⟨K - 1, by omega⟩
    simp only [X2_goTogether_L7, X2_goTogether_B7, mxF, smF]
    rw [hSm, if_neg (by rw [pu_le (by omega) (by omega)]; omega), jat_nI (by omega) (by omega), X2_g12 (by omega), nI_1]
    exact ih (i + 1) K _ _ (by omega) (by omega)
/-- the reference's second loop -/
theorem tog_r2 (n : Nat) {σ : am_M} {N m k : Nat} {L T : Int32} {t v : Nat → Nat} (m8 : m ≤ 8) (hSm : σ 0 3 = nI m) (hk : k = 6 ∨ k = 7) (hN : N ≤ 40) (ht : ∀ j, j < m → t j < N ∧ σ 15 (8 * j + 0) = nI (t j) ∧ σ 9 (t j) = nI (v j) ∧ v j < 4) : ∀ (d i K : Nat), i + d = m → d < K → X8_together_L57 n K (stR σ (clF (σ 17) L i) (wL9 (σ 17) (σ 18) L i) (rwM k (σ 15) v T i)) (nI k) L T (nI i) = X8_together_L120 n n (stR σ (clF (σ 17) L m) (wL9 (σ 17) (σ 18) L m) (rwM k (σ 15) v T m)) 0 := by
  intro d
  induction d with
  | zero =>
    intro i K hi hK
    obtain ⟨K, rfl⟩ : ∃ J, K = J + 1 := ⟨K - 1, by omega⟩
    have e : i = m := by omega
    subst e
    simp only [X8_together_L57, X8_together_B57]
    rw [show (stR σ (clF (σ 17) L i) (wL9 (σ 17) (σ 18) L i) (rwM k (σ 15) v T i)) 0 3 = nI i from hSm, if_pos (Int32.le_refl _)]
  | succ d ih =>
    intro i K hi hK
    obtain ⟨K, rfl⟩ : ∃ J, K = J + 1 := ⟨K - 1, by omega⟩
    obtain ⟨t1, t2, t3, t4⟩ := ht i (by omega)
    simp only [X8_together_L57, X8_together_B57, X8_together_J111]
    rw [show (stR σ (clF (σ 17) L i) (wL9 (σ 17) (σ 18) L i) (rwM k (σ 15) v T i)) 0 3 = nI m from hSm, if_neg (by rw [pu_le (by omega) (by omega)]; omega), upTo_eq (by omega), stR_17, stR_18]
    dsimp only [Option.bind]
    rw [if_neg (pu_g (n := 8) (by omega) (by omega)), if_neg (pu_g (n := 8) (by omega) (by omega)), nI_clamp (by omega), stR_17]
    have z : stR σ (upd (upd (clF (σ 17) L i) i (clF (σ 17) L i i + dl (clF (σ 17) L i i) L)) i (upd (clF (σ 17) L i) i (clF (σ 17) L i i + dl (clF (σ 17) L i i) L) i + 1)) (upd (wL9 (σ 17) (σ 18) L i) i (wL9 (σ 17) (σ 18) L i i + dl (clF (σ 17) L i i) L)) (rwM k (σ 15) v T i) = stR σ (clF (σ 17) L (i + 1)) (wL9 (σ 17) (σ 18) L (i + 1)) (rwM k (σ 15) v T i) := by
      rw [clF_step, wL9_step]
    have hown : X8_own (stR σ (clF (σ 17) L (i + 1)) (wL9 (σ 17) (σ 18) L (i + 1)) (rwM k (σ 15) v T i)) (nI i) 0 = some (nI (t i)) := by
      rw [X8_o0 (by omega)]
      show some (rwM k (σ 15) v T i (8 * i + 0)) = _
      unfold rwM
      rw [if_neg (fun q => by have := q.2.1; omega), t2]
    rw [show (stR σ (clF (σ 17) L i) (wL9 (σ 17) (σ 18) L i) (rwM k (σ 15) v T i)) 17 = clF (σ 17) L i from rfl, show (stR σ (clF (σ 17) L i) (wL9 (σ 17) (σ 18) L i) (rwM k (σ 15) v T i)) 18 = wL9 (σ 17) (σ 18) L i from rfl, show (stR σ (upd (clF (σ 17) L i) i (clF (σ 17) L i i + dl (clF (σ 17) L i i) L)) (upd (wL9 (σ 17) (σ 18) L i) i (wL9 (σ 17) (σ 18) L i i + dl (clF (σ 17) L i i) L)) (rwM k (σ 15) v T i)) 17 = upd (clF (σ 17) L i) i (clF (σ 17) L i i + dl (clF (σ 17) L i i) L) from rfl, z, hown]
    dsimp only
    rcases hk with rfl | rfl
    · rw [if_neg (by decide), nI_1, rwM_6 (i := i) (j := i + 1) (by omega)]
      exact ih (i + 1) K (by omega) (by omega)
    · rw [if_pos (show nI 7 = 7 from rfl), if_neg (pu_g (n := 80) (by omega) (by omega)), nI_clamp (by omega), show (stR σ (upd (clF (σ 17) L i) i (clF (σ 17) L i i + dl (clF (σ 17) L i i) L)) (upd (wL9 (σ 17) (σ 18) L i) i (wL9 (σ 17) (σ 18) L i i + dl (clF (σ 17) L i i) L)) (rwM 7 (σ 15) v T i)) 9 (t i) = nI (v i) from t3, show (2 : Int32) + nI (v i) = nI (2 + v i) from nI_add 2 (v i), X8_put_eq (by omega) (by omega), stR_15]
      dsimp only
      rw [nI_1]
      show X8_together_L57 n K (stR σ (clF (σ 17) L (i + 1)) (wL9 (σ 17) (σ 18) L (i + 1)) (upd (rwM 7 (σ 15) v T i) (8 * i + (2 + v i)) T)) (nI 7) L T (nI (i + 1)) = _
      rw [rwM_step t4]
      exact ih (i + 1) K (by omega) (by omega)
