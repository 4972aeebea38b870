/-! A TEXT'S WORDS: alike in both -/
def Wd (i : Nat) : List Int32 := am_sB.getD (i + 1) []
def bsW : Nat → Nat
  | 0 => 0
  | i + 1 => bsW i + (Wd i).length + 1
theorem W_len : ∀ i, i < 26 → 1 ≤ (Wd i).length ∧ (Wd i).length ≤ 5 := by decide +kernel
theorem W_big : ∀ i, i < 26 → ∀ j, j < (Wd i).length → (am_sB.getD 0 []).getD (bsW i + j) 0 = (Wd i).getD j 0 := by decide +kernel
theorem W_n32 : ∀ i, i < 26 → ∀ j, j < (Wd i).length → ¬ (Wd i).getD j 0 = 32 := by decide +kernel
theorem W_32 : ∀ i, i < 25 → (am_sB.getD 0 []).getD (bsW i + (Wd i).length) 0 = 32 := by decide +kernel
theorem W_end : (am_sB.getD 0 []).length = bsW 25 + (Wd 25).length := by decide +kernel
theorem W_bs : ∀ i, i < 27 → bsW i ≤ 200 := by decide +kernel
theorem W_in : ∀ i, i < 26 → bsW i + (Wd i).length ≤ (am_sB.getD 0 []).length := by decide +kernel
theorem W_lt : ∀ i, i < 25 → bsW i + (Wd i).length < (am_sB.getD 0 []).length := by decide +kernel
theorem W_26 : bsW 26 = (am_sB.getD 0 []).length + 1 := by decide +kernel
theorem W_l0 : (am_sB.getD 0 []).length ≤ 200 := by decide +kernel
theorem W_ne : ∀ i, i < 26 → ∀ j, j < 26 → i ≠ j → (Wd i).length ≠ (Wd j).length ∨ ∃ k, k < (Wd i).length ∧ (Wd i).getD k 0 ≠ (Wd j).getD k 0 := by decide +kernel
/-- the text from p to e is word i -/
def eqw (b : Nat → Int32) (p e i : Nat) : Bool := decide (e - p = (Wd i).length) && decide (∀ j, j < (Wd i).length → (Wd i).getD j 0 = b (p + j))
/-- which word it is; 26: none -/
def wixD (b : Nat → Int32) (p e : Nat) : Nat → Nat
  | 0 => 26
  | d + 1 => if eqw b p e (26 - (d + 1)) = true then 26 - (d + 1) else wixD b p e d
def wix (b : Nat → Int32) (p e : Nat) : Nat := wixD b p e 26
section WORD
variable {b : Nat → Int32} {A p e : Nat}
theorem eqw_iff {i : Nat} : eqw b p e i = true ↔ (e - p = (Wd i).length ∧ ∀ j, j < (Wd i).length → (Wd i).getD j 0 = b (p + j)) := by
  unfold eqw
  rw [Bool.and_eq_true, decide_eq_true_eq, decide_eq_true_eq]
theorem eqw_uniq {i j : Nat} (hi : i < 26) (hj : j < 26) (h1 : eqw b p e i = true) (h2 : eqw b p e j = true) : i = j := by
  obtain ⟨a1, a2⟩ := eqw_iff.mp h1
  obtain ⟨b1, b2⟩ := eqw_iff.mp h2
  by_cases q : i = j
  · exact q
  · rcases W_ne i hi j hj q with z | ⟨k, k1, k2⟩
    · exact absurd (a1.symm.trans b1) z
    · exact absurd ((a2 k k1).trans (b2 k (by omega)).symm) k2
theorem wixD_le : ∀ d, d ≤ 26 → wixD b p e d ≤ 26 := by
  intro d
  induction d with
  | zero => intro _; exact Nat.le_refl _
  | succ d ih =>
    intro hd
    simp only [wixD]
    split
    · omega
    · exact ih (by omega)
theorem wix_le : wix b p e ≤ 26 := wixD_le 26 (Nat.le_refl _)
theorem wixD_eq : ∀ d, d ≤ 26 → wixD b p e d < 26 → eqw b p e (wixD b p e d) = true := by
  intro d
  induction d with
  | zero => intro _ h; exact absurd h (Nat.lt_irrefl _)
  | succ d ih =>
    intro hd h
    simp only [wixD] at h ⊢
    by_cases q : eqw b p e (26 - (d + 1)) = true
    · rw [if_pos q]; exact q
    · rw [if_neg q] at h ⊢
      exact ih (by omega) h
theorem wixD_ex : ∀ d, d ≤ 26 → ∀ i, 26 - d ≤ i → i < 26 → eqw b p e i = true → wixD b p e d < 26 := by
  intro d
  induction d with
  | zero => intro _ i h1 h2 _; omega
  | succ d ih =>
    intro hd i h1 h2 h3
    simp only [wixD]
    by_cases q : eqw b p e (26 - (d + 1)) = true
    · rw [if_pos q]; omega
    · rw [if_neg q]
      by_cases z : i = 26 - (d + 1)
      · rw [z] at h3
        exact absurd h3 q
      · exact ih (by omega) i (by omega) h2 h3
theorem wix_iff {i : Nat} (hi : i < 26) : wix b p e = i ↔ eqw b p e i = true := by
  constructor
  · intro h
    have := wixD_eq (b := b) (p := p) (e := e) 26 (Nat.le_refl _) (by show wix b p e < 26; omega)
    rw [← h]
    exact this
  · intro h
    have l := wixD_ex (b := b) (p := p) (e := e) 26 (Nat.le_refl _) i (by omega) hi h
    have := wixD_eq (b := b) (p := p) (e := e) 26 (Nat.le_refl _) l
    exact eqw_uniq l hi this h
theorem slen0 : am_slen 0 = nI (am_sB.getD 0 []).length := rfl
theorem matches_loop (n : Nat) {S : am_M} (hS : S 1 = b) {i : Nat} (hi : i < 26) (hp : p + (Wd i).length ≤ 700) : ∀ (d j K : Nat), j + d = (Wd i).length → d < K → (∀ x, x < j → (Wd i).getD x 0 = b (p + x)) → X5_matches_L3 n S K (nI p) (nI (bsW i)) (nI (bsW i + (Wd i).length)) (nI (bsW i + j)) = some (decide (∀ j, j < (Wd i).length → (Wd i).getD j 0 = b (p + j))) := by
  have w1 := W_len i hi
  have w2 := W_bs i (by omega)
  have w3 := W_in i hi
  have w4 := W_l0
  intro d
  induction d with
  | zero =>
    intro j K hj hK hx
    obtain ⟨K, rfl⟩ : ∃ J, K = J + 1 := ⟨K - 1, by omega⟩
    simp only [X5_matches_L3, X5_matches_B3]
    rw [if_neg (nI_n0 (by omega)), if_pos (by rw [pu_le (by omega) (by omega)]; omega), decide_eq_true (fun x hx' => hx x (by omega))]
  | succ d ih =>
    intro j K hj hK hx
    obtain ⟨K, rfl⟩ : ∃ J, K = J + 1 := ⟨K - 1, by omega⟩
    have ch : am_sch 0 (nI (bsW i + j)) = (Wd i).getD j 0 := by
      unfold am_sch
      rw [nI_clamp (by omega)]
      exact W_big i hi j (by omega)
    simp only [X5_matches_L3, X5_matches_B3]
    rw [if_neg (nI_n0 (by omega)), if_neg (by rw [pu_le (by omega) (by omega)]; omega), slen0, if_neg (by rw [pu_le (by omega) (by omega)]; omega), if_neg (nI_n0 (by omega)), if_neg (fun q => q ((nI_ltN (by omega) (by omega)).mpr (by omega))), ch, nI_add, show p + (bsW i + j) = bsW i + (p + j) by omega, nI_asub, jat_nI (by omega) (by omega), hS, nI_1]
    by_cases q : (Wd i).getD j 0 = b (p + j)
    · rw [if_pos q]
      exact ih (j + 1) K (by omega) (by omega) (fun x hx' => by
        by_cases z : x = j
        · rw [z]; exact q
        · exact hx x (by omega))
    · rw [if_neg q, decide_eq_false (fun z => q (z j (by omega)))]
theorem wordOf_one (n : Nat) (hn : 2200 < n) {S : am_M} (hS : S 1 = b) {i : Nat} (hi : i < 26) (hpe : p ≤ e) (he : e ≤ 700) : ∀ (d j K : Nat), j + d = (Wd i).length → X5_wordOf_L8 n S (K + d + 1) (nI p) (nI e) (nI i) (nI (bsW i)) (nI (bsW i + j)) = if eqw b p e i = true then some (nI i) else X5_wordOf_L8 n S K (nI p) (nI e) (nI (i + 1)) (nI (bsW (i + 1))) (nI (bsW (i + 1))) := by
  have w1 := W_len i hi
  have w2 := W_bs i (by omega)
  have w3 := W_in i hi
  have w4 := W_l0
  obtain ⟨u, hu⟩ : ∃ u, e = p + u := ⟨e - p, by omega⟩
  intro d
  induction d with
  | zero =>
    intro j K hj
    have ej : j = (Wd i).length := by omega
    subst ej
    have j40 : X5_wordOf_J40 n S (X5_wordOf_L8 n S K) (nI p) (nI e) (nI i) (nI (bsW i)) (nI (bsW i + (Wd i).length)) = if eqw b p e i = true then some (nI i) else X5_wordOf_L8 n S K (nI p) (nI e) (nI (i + 1)) (nI (bsW (i + 1))) (nI (bsW (i + 1))) := by
      unfold X5_wordOf_J40 X5_wordOf_J65 X5_wordOf_J74
      rw [nI_asub, hu, nI_asub, nI_1, nI_1]
      by_cases q : (Wd i).length = u
      · have ML := matches_loop (p := p) n hS hi (by omega) (Wd i).length 0 n (by omega) (by omega) (fun x hx => absurd hx (Nat.not_lt_zero x))
        change X5_matches_L3 n S n (nI p) (nI (bsW i)) (nI (bsW i + (Wd i).length)) (nI (bsW i)) = _ at ML
        rw [if_pos (by rw [q]), X5_matches, ML]
        dsimp only [Option.bind]
        by_cases z : ∀ j, j < (Wd i).length → (Wd i).getD j 0 = b (p + j)
        · rw [decide_eq_true z, if_pos rfl, if_pos (eqw_iff.mpr ⟨by omega, z⟩)]
        · rw [decide_eq_false z, if_neg Bool.false_ne_true, if_neg (fun y => z (eqw_iff.mp y).2)]
          rfl
      · rw [if_neg (fun z => q ((nI_eq (by omega) (by omega)).mp z)), if_neg (fun y => q (by have := (eqw_iff.mp y).1; omega))]
        rfl
    simp only [X5_wordOf_L8, X5_wordOf_B8]
    rw [slen0, if_neg (fun q => by have := (nI_ltN (by omega) (by omega)).mp q; omega)]
    by_cases c25 : i = 25
    · rw [if_pos (by rw [c25, W_end])]
      exact j40
    · have l := W_lt i (by omega)
      have ch : am_sch 0 (nI (bsW i + (Wd i).length)) = 32 := by
        unfold am_sch
        rw [nI_clamp (by omega)]
        exact W_32 i (by omega)
      rw [if_neg (fun q => by have := (nI_eq (by omega) (by omega)).mp q; omega), if_neg (nI_n0 (by omega)), if_neg (fun q => q ((nI_ltN (by omega) (by omega)).mpr l)), if_pos ch]
      exact j40
  | succ d ih =>
    intro j K hj
    have ch : am_sch 0 (nI (bsW i + j)) = (Wd i).getD j 0 := by
      unfold am_sch
      rw [nI_clamp (by omega)]
      exact W_big i hi j (by omega)
    rw [show K + (d + 1) + 1 = (K + d + 1) + 1 by omega, ← ih (j + 1) K (by omega)]
    rw [X5_wordOf_L8]
    simp only [X5_wordOf_B8, X5_wordOf_J74]
    rw [slen0, if_neg (fun q => by have := (nI_ltN (by omega) (by omega)).mp q; omega), if_neg (fun q => by have := (nI_eq (by omega) (by omega)).mp q; omega), if_neg (nI_n0 (by omega)), if_neg (fun q => q ((nI_ltN (by omega) (by omega)).mpr (by omega))), if_neg (by rw [ch]; exact W_n32 i hi j (by omega)), nI_1]
    rfl
theorem wordOf_from (n : Nat) (hn : 2200 < n) {S : am_M} (hS : S 1 = b) (hpe : p ≤ e) (he : e ≤ 700) : ∀ (d i K : Nat), i + d = 26 → bsW 26 < K + bsW i → X5_wordOf_L8 n S K (nI p) (nI e) (nI i) (nI (bsW i)) (nI (bsW i)) = some (nI (wixD b p e d)) := by
  intro d
  induction d with
  | zero =>
    intro i K hi hK
    have ei : i = 26 := by omega
    subst ei
    obtain ⟨K, rfl⟩ : ∃ J, K = J + 1 := ⟨K - 1, by omega⟩
    have w4 := W_l0
    simp only [X5_wordOf_L8, X5_wordOf_B8]
    rw [slen0, W_26, if_pos ((nI_ltN (by omega) (by omega)).mpr (by omega))]
    rfl
  | succ d ih =>
    intro i K hi hK
    have hb : bsW (i + 1) = bsW i + (Wd i).length + 1 := rfl
    have w26 := W_bs 26 (by omega)
    have mono : bsW i + (Wd i).length + 1 ≤ bsW 26 := by
      have := W_in i (by omega)
      rw [W_26]
      omega
    obtain ⟨J, rfl⟩ : ∃ J, K = J + (Wd i).length + 1 := ⟨K - (Wd i).length - 1, by omega⟩
    have := wordOf_one n hn hS (show i < 26 by omega) hpe he (Wd i).length 0 J (by omega)
    change X5_wordOf_L8 n S (J + (Wd i).length + 1) (nI p) (nI e) (nI i) (nI (bsW i)) (nI (bsW i)) = _ at this
    rw [this]
    simp only [wixD]
    rw [show 26 - (d + 1) = i by omega]
    by_cases q : eqw b p e i = true
    · rw [if_pos q, if_pos q]
    · rw [if_neg q, if_neg q]
      exact ih (i + 1) J (by omega) (by omega)
theorem wordOf_eq (n : Nat) (hn : 2200 < n) {S : am_M} (hS : S 1 = b) (hpe : p ≤ e) (he : e ≤ 700) : X5_wordOf n S (nI p) (nI e) = some (nI (wix b p e)) := by
  have w26 := W_bs 26 (by omega)
  exact wordOf_from n hn hS hpe he 26 0 n (by omega) (by omega)
theorem is_0 (n : Nat) {R : am_M} {a : Nat} {x : Int32} : ∀ K, 0 < K → X8_is_L39 n R K a 0 x = some false := by
  intro K hK
  obtain ⟨K, rfl⟩ : ∃ J, K = J + 1 := ⟨K - 1, by omega⟩
  simp only [X8_is_L39, X8_is_B39]
  rw [if_pos True.intro, if_pos True.intro]
theorem is_loop (n : Nat) {R : am_M} {i : Nat} (hi : i < 26) (h16 : R 0 16 = nI p) (hb : ∀ x, x < A → R 3 x = b x) (hp : p + (Wd i).length ≤ A) (hA : A ≤ 700) : ∀ (d j K : Nat), j + d = (Wd i).length → d + 1 < K → (∀ x, x < j → (Wd i).getD x 0 = b (p + x)) → X8_is_L39 n R K (i + 1) 1 (nI j) = some (decide (∀ j, j < (Wd i).length → (Wd i).getD j 0 = b (p + j))) := by
  have w1 := W_len i hi
  have e1 : am_slen (i + 1) = nI (Wd i).length := rfl
  have sn : ¬ am_sn ≤ i + 1 := by
    show ¬ 27 ≤ i + 1
    omega
  intro d
  induction d with
  | zero =>
    intro j K hj hK hx
    obtain ⟨K, rfl⟩ : ∃ J, K = J + 1 := ⟨K - 1, by omega⟩
    simp only [X8_is_L39, X8_is_B39]
    rw [if_neg (show ¬ (1 : Int32) = 0 by decide), if_neg sn, e1, if_pos (by rw [pu_le (by omega) (by omega)]; omega), if_neg (show ¬ (1 : Int32) = 0 by decide), if_pos True.intro, decide_eq_true (fun x hx' => hx x (by omega))]
  | succ d ih =>
    intro j K hj hK hx
    obtain ⟨K, rfl⟩ : ∃ J, K = J + 1 := ⟨K - 1, by omega⟩
    have ch : am_sch (i + 1) (nI j) = (Wd i).getD j 0 := by
      unfold am_sch
      rw [nI_clamp (by omega)]
      rfl
    simp only [X8_is_L39, X8_is_B39, X8_is_J75]
    rw [if_neg (show ¬ (1 : Int32) = 0 by decide), if_neg sn, e1, if_neg (by rw [pu_le (by omega) (by omega)]; omega), if_neg sn, if_neg (nI_n0 (by omega)), if_neg (fun q => q ((nI_ltN (by omega) (by omega)).mpr (by omega))), h16, nI_add, if_neg (pu_g (n := 700) (by omega) (by omega)), nI_clamp (by omega), ch, hb (p + j) (by omega), nI_1]
    by_cases q : (Wd i).getD j 0 = b (p + j)
    · rw [if_pos q]
      exact ih (j + 1) K (by omega) (by omega) (fun x hx' => by
        by_cases z : x = j
        · rw [z]; exact q
        · exact hx x (by omega))
    · rw [if_neg q, is_0 n K (by omega), decide_eq_false (fun z => q (z j (by omega)))]
theorem is_word (n : Nat) (hn : 2200 < n) {R : am_M} {i : Nat} (hi : i < 26) (hA : A ≤ 700) (h18 : R 0 18 = 0) (h13 : R 0 13 = 1) (h16 : R 0 16 = nI p) (h17 : R 0 17 = nI e) (hpe : p ≤ e) (he : e ≤ A) (hb : ∀ x, x < A → R 3 x = b x) : X8_is n R (i + 1) = some (decide (wix b p e = i)) := by
  have w1 := W_len i hi
  have sn : ¬ am_sn ≤ i + 1 := by
    show ¬ 27 ≤ i + 1
    omega
  have e1 : am_slen (i + 1) = nI (Wd i).length := rfl
  obtain ⟨u, hu⟩ : ∃ u, e = p + u := ⟨e - p, by omega⟩
  have D : decide (wix b p e = i) = eqw b p e i := by
    by_cases q : wix b p e = i
    · rw [decide_eq_true q, (wix_iff hi).mp q]
    · rw [decide_eq_false q, Bool.eq_false_iff.mpr (fun z => q ((wix_iff hi).mpr z))]
  rw [D]
  unfold X8_is X8_is_J35 X8_is_J36
  rw [if_pos h18, if_pos h13, if_neg sn, e1, h16, h17, hu, nI_asub]
  by_cases q : (Wd i).length = u
  · have L := is_loop (b := b) (p := p) (A := A) n hi h16 hb (by omega) hA (Wd i).length 0 n (by omega) (by omega) (fun x hx => absurd hx (Nat.not_lt_zero x))
    rw [nI_0] at L
    rw [if_pos (by rw [q]), L]
    unfold eqw
    rw [decide_eq_true (show p + u - p = (Wd i).length by omega), Bool.true_and]
  · rw [if_neg (fun z => q ((nI_eq (by omega) (by omega)).mp z)), is_0 n n (by omega), show eqw b p (p + u) i = false from Bool.eq_false_iff.mpr (fun y => q (by have := (eqw_iff.mp y).1; omega))]
theorem is_no (n : Nat) (hn : 2200 < n) {R : am_M} {a : Nat} (h : ¬ R 0 18 = 0 ∨ ¬ R 0 13 = 1) : X8_is n R a = some false := by
  unfold X8_is X8_is_J35 X8_is_J36
  rcases h with h | h
  · rw [if_neg h, is_0 n n (by omega)]
  · rw [if_neg h, is_0 n n (by omega)]
    split <;> rfl
end WORD
