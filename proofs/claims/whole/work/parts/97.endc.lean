/-! ENDINGS: what a STATE shows; the class's row of them -/
def ubn (S : am_M) : Nat → Nat
  | 0 => 0
  | k + 1 => if S 1 (13 * k + 0) = -1 then ubn S k else ubn S k ||| 2 ^ k
theorem ubn_lt {S : am_M} : ∀ k, k ≤ 8 → ubn S k < 256 := by
  intro k
  induction k with
  | zero => intro _; exact (show 0 < 256 by decide)
  | succ k ih =>
    intro h
    simp only [ubn]
    split
    · exact ih (by omega)
    · exact (bit_or (ubn S k) (ih (by omega)) k (by omega)).2
def stq (S : am_M) : Nat → Bool
  | 0 => false
  | k + 1 => stq S k || decide (S 1 (13 * k + 1) = 1)
theorem stq_mono {S : am_M} {k : Nat} (h : stq S k = true) : ∀ d, stq S (k + d) = true := by
  intro d
  induction d with
  | zero => exact h
  | succ d ih =>
    show (stq S (k + d) || _) = true
    rw [ih]; rfl
def knd (S : am_M) (m : Nat) : Int32 := if ubn S m = 0 then 0 else if stq S m = true then 1 else 2
theorem ubn_congr {S S' : am_M} : ∀ k, (∀ j, j < k → S' 1 (13 * j + 0) = S 1 (13 * j + 0)) → ubn S' k = ubn S k := by
  intro k
  induction k with
  | zero => intro _; rfl
  | succ k ih =>
    intro h
    simp only [ubn]
    rw [ih (fun j hj => h j (by omega)), h k (by omega)]
theorem stq_congr {S S' : am_M} : ∀ k, (∀ j, j < k → S' 1 (13 * j + 1) = S 1 (13 * j + 1)) → stq S' k = stq S k := by
  intro k
  induction k with
  | zero => intro _; rfl
  | succ k ih =>
    intro h
    simp only [stq]
    rw [ih (fun j hj => h j (by omega)), h k (by omega)]
theorem knd_congr {S S' : am_M} {m : Nat} (h : ∀ k, k < 13 * m → S' 1 k = S 1 k) : knd S' m = knd S m := by
  unfold knd
  rw [ubn_congr m (fun j hj => h _ (by omega)), stq_congr m (fun j hj => h _ (by omega))]
/-- what an ENDING shows -/
def shw (S : am_M) (m M : Nat) : Nat → Int32 := fun c => if c = 0 then knd S m else if c ≤ 8 then (if c - 1 < m then S 1 (13 * (c - 1) + 9) else 0) else if c = 9 then nI M else nI (ubn S m)
theorem unended_loop (n : Nat) {S : am_M} {m : Nat} (m8 : m ≤ 8) (hSm : S 0 1 = nI m) : ∀ (d h K : Nat), h + d = m → d < K → X2_unended_L4 n S K (nI (ubn S h)) (nI h) = some (nI (ubn S m)) := by
  intro d
  induction d with
  | zero =>
    intro h K hh hK
    obtain ⟨K, rfl⟩ : ∃ J, K = J + 1 := ⟨K - 1, by omega⟩
    have e : h = m := by omega
    subst e
    simp only [X2_unended_L4, X2_unended_B4]
    rw [hSm, if_pos (Int32.le_refl _)]
  | succ d ih =>
    intro h K hh hK
    obtain ⟨K, rfl⟩ : ∃ J, K = J + 1 := ⟨K - 1, by omega⟩
    have := ih (h + 1) K (by omega) (by omega)
    simp only [X2_unended_L4, X2_unended_B4, X2_unended_J26]
    rw [hSm, if_neg (by rw [pu_le (by omega) (by omega)]; omega), X2_hasEnded_eq (by omega), nI_1, (bit_or (ubn S h) (ubn_lt h (by omega)) h (by omega)).1]
    simp only [ubn] at this
    by_cases q : S 1 (13 * h + 0) = -1
    · rw [if_pos (decide_eq_true q)]
      rw [if_pos q] at this
      exact this
    · rw [if_neg (by rw [decide_eq_true_eq]; exact q)]
      rw [if_neg q] at this
      exact this
theorem unended_eq (n : Nat) (hn : 2200 < n) {S : am_M} {m : Nat} (m8 : m ≤ 8) (hSm : S 0 1 = nI m) : X2_unended n S = some (nI (ubn S m)) := by
  have := unended_loop n m8 hSm m 0 n (by omega) (by omega)
  unfold X2_unended
  rw [nI_0] at this
  exact this
theorem outcome_loop (n : Nat) {S : am_M} {m : Nat} (m8 : m ≤ 8) (hSm : S 0 1 = nI m) : ∀ (d h K : Nat), h + d = m → d < K → stq S h = false → X2_outcome_L11 n S K (nI h) = some (if stq S m = true then 1 else 2) := by
  intro d
  induction d with
  | zero =>
    intro h K hh hK hs
    obtain ⟨K, rfl⟩ : ∃ J, K = J + 1 := ⟨K - 1, by omega⟩
    have e : h = m := by omega
    subst e
    simp only [X2_outcome_L11, X2_outcome_B11]
    rw [hSm, if_pos (Int32.le_refl _), hs, if_neg (by decide)]
  | succ d ih =>
    intro h K hh hK hs
    obtain ⟨K, rfl⟩ : ∃ J, K = J + 1 := ⟨K - 1, by omega⟩
    simp only [X2_outcome_L11, X2_outcome_B11]
    rw [hSm, if_neg (by rw [pu_le (by omega) (by omega)]; omega), X2_g1 (by omega), nI_1]
    by_cases q : S 1 (13 * h + 1) = 1
    · have h1 : stq S (h + 1) = true := by
        show (stq S h || decide (S 1 (13 * h + 1) = 1)) = true
        rw [decide_eq_true q, Bool.or_true]
      have h2 := stq_mono h1 d
      rw [show h + 1 + d = m by omega] at h2
      rw [if_pos q, if_pos h2]
    · have h1 : stq S (h + 1) = false := by
        show (stq S h || decide (S 1 (13 * h + 1) = 1)) = false
        rw [decide_eq_false q, hs]; rfl
      rw [if_neg q]
      exact ih (h + 1) K (by omega) (by omega) h1
theorem outcome_eq (n : Nat) (hn : 2200 < n) {S : am_M} {m : Nat} (m8 : m ≤ 8) (hSm : S 0 1 = nI m) : X2_outcome n S = some (knd S m) := by
  have h1 := outcome_loop n m8 hSm m 0 n (by omega) (by omega) rfl
  have h2 := ubn_lt (S := S) m m8
  rw [nI_0] at h1
  unfold X2_outcome knd
  rw [unended_eq n hn m8 hSm]
  dsimp only [Option.bind]
  by_cases q : ubn S m = 0
  · rw [if_pos (by rw [q]; rfl), if_pos q]
  · rw [if_neg (fun z => q (by rw [← nI_0] at z; exact (nI_eq (by omega) (by omega)).mp z)), if_neg q]
    exact h1
/-- a STATE's row in the class -/
def eRow (P : am_M) (m i M : Nat) (S : am_M) : Prop := (∀ k, k < 13 * m → P 20 (104 * i + k) = S 1 k) ∧ (∃ p, P 22 i = nI p ∧ P 22 (i + 1) = nI (p + M)) ∧ P 25 i = knd S m
theorem unendP_loop (n : Nat) {P S : am_M} {m i : Nat} (m8 : m ≤ 8) (hi : i < 200) (hPm : P 0 13 = nI m) (hr : ∀ k, k < 13 * m → P 20 (104 * i + k) = S 1 k) : ∀ (d h K : Nat), h + d = m → d < K → X4_unendedOf_L4 n P K (nI i) (nI (ubn S h)) (nI h) = some (nI (ubn S m)) := by
  intro d
  induction d with
  | zero =>
    intro h K hh hK
    obtain ⟨K, rfl⟩ : ∃ J, K = J + 1 := ⟨K - 1, by omega⟩
    have e : h = m := by omega
    subst e
    simp only [X4_unendedOf_L4, X4_unendedOf_B4]
    rw [hPm, if_pos (Int32.le_refl _)]
  | succ d ih =>
    intro h K hh hK
    obtain ⟨K, rfl⟩ : ∃ J, K = J + 1 := ⟨K - 1, by omega⟩
    have := ih (h + 1) K (by omega) (by omega)
    simp only [X4_unendedOf_L4, X4_unendedOf_B4, X4_unendedOf_J40]
    rw [hPm, if_neg (by rw [pu_le (by omega) (by omega)]; omega), show nI i * 104 = nI (i * 104) from pk_mul i 104, show nI h * 13 = nI (h * 13) from pk_mul h 13, show (0 : Int32) = nI 0 from rfl, nI_add, nI_add, jat_nI (by omega) (by omega), show i * 104 + h * 13 + 0 = 104 * i + (13 * h + 0) by omega, hr (13 * h + 0) (by omega), nI_1, (bit_or (ubn S h) (ubn_lt h (by omega)) h (by omega)).1]
    simp only [ubn] at this
    by_cases q : S 1 (13 * h + 0) = -1
    · rw [if_pos q]
      rw [if_pos q] at this
      exact this
    · rw [if_neg q]
      rw [if_neg q] at this
      exact this
theorem unendP_eq (n : Nat) (hn : 2200 < n) {P S : am_M} {m i : Nat} (m8 : m ≤ 8) (hi : i < 200) (hPm : P 0 13 = nI m) (hr : ∀ k, k < 13 * m → P 20 (104 * i + k) = S 1 k) : X4_unendedOf n P (nI i) = some (nI (ubn S m)) := by
  have := unendP_loop n m8 hi hPm hr m 0 n (by omega) (by omega)
  unfold X4_unendedOf
  rw [nI_0] at this
  exact this
theorem toldP_eq {P S : am_M} {m i h : Nat} (m8 : m ≤ 8) (hi : i < 200) (hh : h < m) (hr : ∀ k, k < 13 * m → P 20 (104 * i + k) = S 1 k) : X4_toldOf P (nI i) (nI h) = S 1 (13 * h + 9) := by
  unfold X4_toldOf
  rw [show nI i * 104 = nI (i * 104) from pk_mul i 104, show nI h * 13 = nI (h * 13) from pk_mul h 13, show (9 : Int32) = nI 9 from rfl, nI_add, nI_add, jat_nI (by omega) (by omega), show i * 104 + h * 13 + 9 = 104 * i + (13 * h + 9) by omega, hr (13 * h + 9) (by omega)]
theorem wordsP_eq {P S : am_M} {m i M : Nat} (hi : i < 200) (h : eRow P m i M S) : X4_wordsOf P (nI i) = nI M := by
  obtain ⟨-, ⟨p, h1, h2⟩, -⟩ := h
  unfold X4_wordsOf
  rw [nI_1, jat_nI (by omega) (by omega), jat_nI (by omega) (by omega), h1, h2, nI_asub]
theorem j6_eq (a b : Int32) : J6_compare_7cf53 a b = if a = b then 0 else if a < b then -1 else 1 := by
  unfold J6_compare_7cf53
  by_cases e : a = b
  · subst e
    rw [if_pos (Int32.le_refl _), if_pos rfl, if_pos rfl]
  · rw [if_neg e, if_neg e]
    by_cases l : a < b
    · rw [if_pos l, if_neg (by
        rw [Int32.lt_iff_toInt_lt] at l
        rw [Int32.le_iff_toInt_le]; omega)]
    · rw [if_neg l, if_pos (by
        rw [Int32.lt_iff_toInt_lt] at l
        rw [Int32.le_iff_toInt_le]; omega)]
theorem cmpP_nz (n : Nat) {P : am_M} {v x i j : Int32} (hv : v ≠ 0) : ∀ K, 0 < K → X4_compare_L23 n P K i j v x = some v := by
  intro K hK
  obtain ⟨K, rfl⟩ : ∃ J, K = J + 1 := ⟨K - 1, by omega⟩
  simp only [X4_compare_L23, X4_compare_B23, X4_compare_J60, X4_compare_J78]
  rw [if_neg hv, if_neg hv, if_neg hv]
  split <;> rfl
theorem cmpP_loop (n : Nat) (hn : 2200 < n) {P Si Sj : am_M} {m i j Mi Mj : Nat} (m8 : m ≤ 8) (hi : i < 200) (hj : j < 200) (hPm : P 0 13 = nI m) (ri : eRow P m i Mi Si) (rj : eRow P m j Mj Sj) : ∀ (d h K : Nat), h + d = m → d + 1 < K → X4_compare_L23 n P K (nI i) (nI j) 0 (nI h) = some (lx (shw Si m Mi) (shw Sj m Mj) (1 + h) (10 - h)) := by
  intro d
  induction d with
  | zero =>
    intro h K hh hK
    obtain ⟨K, rfl⟩ : ∃ J, K = J + 1 := ⟨K - 1, by omega⟩
    have e : h = m := by omega
    subst e
    simp only [X4_compare_L23, X4_compare_B23, X4_compare_J60, X4_compare_J78]
    rw [hPm, if_pos (Int32.le_refl _), if_pos True.intro, wordsP_eq hi ri, wordsP_eq hj rj, unendP_eq n hn m8 hi hPm ri.1, unendP_eq n hn m8 hj hPm rj.1, j6_eq]
    dsimp only [Option.bind]
    rw [j6_eq, show 10 - h = (8 - h) + 2 by omega, lx_skip (8 - h) (1 + h) 2 (fun x h1 h2 => by
      unfold shw
      rw [if_neg (by omega), if_pos (by omega), if_neg (by omega), if_neg (by omega), if_pos (by omega), if_neg (by omega)]), show 1 + h + (8 - h) = 9 by omega]
    simp only [lx]
    have s9 : ∀ (S : am_M) (M : Nat), shw S h M 9 = nI M := fun _ _ => rfl
    have s10 : ∀ (S : am_M) (M : Nat), shw S h M (9 + 1) = nI (ubn S h) := fun _ _ => rfl
    rw [s9, s9, s10, s10]
    by_cases q : nI Mi = nI Mj
    · rw [if_pos q, if_pos rfl, if_pos q]
    · rw [if_neg q, if_neg q]
      by_cases q2 : nI Mi < nI Mj
      · rw [if_pos q2, if_neg (by decide)]
      · rw [if_neg q2, if_neg (by decide)]
  | succ d ih =>
    intro h K hh hK
    obtain ⟨K, rfl⟩ : ∃ J, K = J + 1 := ⟨K - 1, by omega⟩
    simp only [X4_compare_L23, X4_compare_B23]
    rw [hPm, if_neg (by rw [pu_le (by omega) (by omega)]; omega), if_pos True.intro, toldP_eq m8 hi (by omega) ri.1, toldP_eq m8 hj (by omega) rj.1, nI_1, j6_eq, show 10 - h = (10 - (h + 1)) + 1 by omega]
    simp only [lx]
    have s1 : ∀ (S : am_M) (M : Nat), shw S m M (1 + h) = S 1 (13 * h + 9) := fun S M => by
      unfold shw
      rw [if_neg (by omega), if_pos (by omega), show 1 + h - 1 = h by omega, if_pos (by omega)]
    rw [s1, s1]
    by_cases q : Si 1 (13 * h + 9) = Sj 1 (13 * h + 9)
    · rw [if_pos q, if_pos q, show 1 + h + 1 = 1 + (h + 1) by omega]
      exact ih (h + 1) K (by omega) (by omega)
    · rw [if_neg q, if_neg q]
      exact cmpP_nz n (by split <;> decide) K (by omega)
theorem cmpP_eq (n : Nat) (hn : 2200 < n) {P Si Sj : am_M} {m i j Mi Mj : Nat} (m8 : m ≤ 8) (hi : i < 200) (hj : j < 200) (hPm : P 0 13 = nI m) (ri : eRow P m i Mi Si) (rj : eRow P m j Mj Sj) : X4_compare n P (nI i) (nI j) = some (lx (shw Si m Mi) (shw Sj m Mj) 0 11) := by
  have h0 := cmpP_loop n hn m8 hi hj hPm ri rj m 0 n (by omega) (by omega)
  rw [nI_0] at h0
  unfold X4_compare
  rw [jat_nI hi (by omega), jat_nI hj (by omega), ri.2.2, rj.2.2, j6_eq]
  show _ = some (if knd Si m = knd Sj m then lx (shw Si m Mi) (shw Sj m Mj) (0 + 1) 10 else if knd Si m < knd Sj m then -1 else 1)
  by_cases q : knd Si m = knd Sj m
  · rw [if_pos q, if_pos q]
    exact h0
  · rw [if_neg q, if_neg q]
    exact cmpP_nz n (by split <;> decide) n (by omega)
theorem sC_3 {P : am_M} {c d : Nat} {g f g' : Nat → Int32} : sC (sC (sC P c g) d f) c g' = sC (sC P d f) c g' := by
  funext k
  simp only [sC_app]
  by_cases h1 : k = c
  · rw [if_pos h1, if_pos h1]
  · rw [if_neg h1, if_neg h1, if_neg h1]
theorem addE_sh (n : Nat) {P : am_M} {F i p : Nat} (hF : F ≤ 199) (h10 : P 0 10 = nI F) : ∀ (d K : Nat) (g : Nat → Int32), p + d ≤ F → d < K → ∃ g', X4_addEnding_L62 n K (sC P 26 g) (nI i) (nI p) (nI (p + d)) = some (sC (sC P 0 (am_u (P 0) 10 (nI (F + 1)))) 26 g') ∧ (∀ e, e < p → g' e = g e) ∧ g' p = nI i ∧ (∀ e, p < e → e ≤ p + d → g' e = g (e - 1)) ∧ ∀ e, p + d < e → g' e = g e := by
  intro d
  induction d with
  | zero =>
    intro K g hp hK
    obtain ⟨K, rfl⟩ : ∃ J, K = J + 1 := ⟨K - 1, by omega⟩
    refine ⟨upd g p (nI i), ?_, fun e he => upd_ne (by omega), upd_eq, fun e h1 h2 => by omega, fun e he => upd_ne (by omega)⟩
    simp only [X4_addEnding_L62, X4_addEnding_B62]
    rw [if_pos (show nI (p + 0) ≤ nI p from Int32.le_refl _), jput_nI (by omega) (by omega), sC_3, show (sC P 26 g) 0 10 + 1 = nI (F + 1) by
      show P 0 10 + 1 = _
      rw [h10, nI_1]]
  | succ d ih =>
    intro K g hp hK
    obtain ⟨K, rfl⟩ : ∃ J, K = J + 1 := ⟨K - 1, by omega⟩
    simp only [X4_addEnding_L62, X4_addEnding_B62]
    rw [show p + (d + 1) = (p + d) + 1 by omega, if_neg (by rw [pu_le (by omega) (by omega)]; omega), sub1, jat_nI (by omega) (by omega), jput_nI (by omega) (by omega), nI_m1, sC_sC]
    obtain ⟨g', e1, e2, e3, e4, e5⟩ := ih K (upd g (p + d + 1) (g (p + d))) (by omega) (by omega)
    refine ⟨g', e1, fun e he => ?_, e3, fun e h1 h2 => ?_, fun e he => ?_⟩
    · rw [e2 e he, upd_ne (by omega)]
    · by_cases q : e = p + d + 1
      · subst q
        rw [e5 _ (by omega), upd_eq]
        rfl
      · rw [e4 e h1 (by omega), upd_ne (by omega)]
    · rw [e5 e (by omega), upd_ne (by omega)]
theorem addE_cl (n : Nat) (hn : 2200 < n) {P : am_M} {o : Nat → Nat} {F i p : Nat} {c : Nat → Int32} (hF : F ≤ 199) (hi : i < 200) (h10 : P 0 10 = nI F) (hO : ∀ e, e < F → P 26 e = nI (o e)) (hc : ∀ e, e < F → X4_compare n P (nI (o e)) (nI i) = some (c e)) (hp : p ≤ F) (h1 : ∀ e, e < p → c e = -1) (h2 : p < F → c p = 0 ∨ c p = 1) :
    ∃ g, X4_addEnding n P (nI i) = some (if p < F ∧ c p = 0 then P else sC (sC P 0 (am_u (P 0) 10 (nI (F + 1)))) 26 g) ∧ ∀ e, e < F + 1 → g e = nI (insO o p i e) := by
  obtain ⟨g, g1, g2, g3, g4, g5⟩ := addE_sh n (i := i) (p := p) hF h10 (F - p) n (P 26) (by omega) (by omega)
  rw [sC_self, show p + (F - p) = F by omega] at g1
  refine ⟨g, ?_, fun e he => ?_⟩
  · have j32 : X4_addEnding_J32 n P (nI i) (nI p) = some (if p < F ∧ c p = 0 then P else sC (sC P 0 (am_u (P 0) 10 (nI (F + 1)))) 26 g) := by
      unfold X4_addEnding_J32 X4_addEnding_J57
      rw [h10]
      by_cases q : p < F
      · rw [if_neg (by rw [pu_le (by omega) (by omega)]; omega), jat_nI (by omega) (by omega), hO p q, hc p q]
        dsimp only [Option.bind]
        by_cases z : c p = 0
        · rw [if_pos z, if_pos ⟨q, z⟩]
        · rw [if_neg z, if_neg (fun y => z y.2)]
          exact g1
      · rw [if_pos (by rw [pu_le (by omega) (by omega)]; omega), if_neg (fun y => q y.1)]
        exact g1
    have lp : ∀ (d e K : Nat), e + d = p → d < K → X4_addEnding_L2 n K P (nI i) (nI e) = X4_addEnding_J32 n P (nI i) (nI p) := by
      intro d
      induction d with
      | zero =>
        intro e K he hK
        obtain ⟨K, rfl⟩ : ∃ J, K = J + 1 := ⟨K - 1, by omega⟩
        have ee : e = p := by omega
        subst ee
        simp only [X4_addEnding_L2, X4_addEnding_B2]
        rw [h10]
        by_cases q : e < F
        · rw [if_neg (by rw [pu_le (by omega) (by omega)]; omega), jat_nI (by omega) (by omega), hO e q, hc e q]
          dsimp only [Option.bind]
          rw [if_pos (by rcases h2 q with z | z <;> rw [z] <;> decide)]
        · rw [if_pos (by rw [pu_le (by omega) (by omega)]; omega)]
      | succ d ih =>
        intro e K he hK
        obtain ⟨K, rfl⟩ : ∃ J, K = J + 1 := ⟨K - 1, by omega⟩
        simp only [X4_addEnding_L2, X4_addEnding_B2]
        rw [h10, if_neg (by rw [pu_le (by omega) (by omega)]; omega), jat_nI (by omega) (by omega), hO e (by omega), hc e (by omega)]
        dsimp only [Option.bind]
        rw [if_neg (by rw [h1 e (by omega)]; decide), nI_1]
        exact ih (e + 1) K (by omega) (by omega)
    have := lp p 0 n (by omega) (by omega)
    unfold X4_addEnding
    rw [nI_0] at this
    rw [this]
    exact j32
  · unfold insO
    by_cases q : e < p
    · rw [if_pos q, g2 e q, hO e (by omega)]
    · rw [if_neg q]
      by_cases q2 : e = p
      · rw [if_pos q2, q2, g3]
      · rw [if_neg q2, g4 e (by omega) (by omega), hO (e - 1) (by omega)]
