/-! A TEXT'S TOKENS -/
def blk (b : Nat → Int32) (p : Nat) : Bool := if b p = 32 then true else if b p = 10 then true else false
/-- 1 a letter, 2 a digit, 3 another -/
def cl (b : Nat → Int32) (p : Nat) : Nat := if X8_isLetter (b p) = true then 1 else if X8_isDigit (b p) = true then 2 else 3
def skipD (b : Nat → Int32) (A : Nat) : Nat → Nat
  | 0 => A
  | d + 1 => if blk b (A - (d + 1)) = true then skipD b A d else A - (d + 1)
def runD (b : Nat → Int32) (A c : Nat) : Nat → Nat
  | 0 => A
  | d + 1 => if cl b (A - (d + 1)) = c then runD b A c d else A - (d + 1)
def skp (b : Nat → Int32) (A p : Nat) : Nat := skipD b A (A - p)
def rn (b : Nat → Int32) (A c p : Nat) : Nat := runD b A c (A - p)
/-- where the token that begins at p ends -/
def enT (b : Nat → Int32) (A p : Nat) : Nat := if cl b p = 3 then p + 1 else rn b A (cl b p) (p + 1)
/-- where token k begins -/
def tkB (b : Nat → Int32) (A : Nat) : Nat → Nat
  | 0 => skp b A 0
  | k + 1 => if tkB b A k < A then skp b A (enT b A (tkB b A k)) else A
section TOK
variable {b : Nat → Int32} {A : Nat}
theorem skp_A : skp b A A = A := by
  unfold skp
  rw [Nat.sub_self]
  rfl
theorem skp_lt {p : Nat} (h : p < A) : skp b A p = if blk b p = true then skp b A (p + 1) else p := by
  unfold skp
  obtain ⟨d, hd⟩ : ∃ d, A - p = d + 1 := ⟨A - p - 1, by omega⟩
  rw [hd, show A - (p + 1) = d by omega]
  simp only [skipD]
  rw [show A - (d + 1) = p by omega]
theorem rn_A {c : Nat} : rn b A c A = A := by
  unfold rn
  rw [Nat.sub_self]
  rfl
theorem rn_lt {c p : Nat} (h : p < A) : rn b A c p = if cl b p = c then rn b A c (p + 1) else p := by
  unfold rn
  obtain ⟨d, hd⟩ : ∃ d, A - p = d + 1 := ⟨A - p - 1, by omega⟩
  rw [hd, show A - (p + 1) = d by omega]
  simp only [runD]
  rw [show A - (d + 1) = p by omega]
theorem skp_bd : ∀ (d p : Nat), p + d = A → p ≤ skp b A p ∧ skp b A p ≤ A ∧ (skp b A p < A → blk b (skp b A p) = false) := by
  intro d
  induction d with
  | zero =>
    intro p hp
    have : p = A := by omega
    rw [this, skp_A]
    exact ⟨Nat.le_refl _, Nat.le_refl _, fun q => absurd q (Nat.lt_irrefl _)⟩
  | succ d ih =>
    intro p hp
    rw [skp_lt (by omega)]
    by_cases q : blk b p = true
    · rw [if_pos q]
      obtain ⟨i1, i2, i3⟩ := ih (p + 1) (by omega)
      exact ⟨by omega, i2, i3⟩
    · rw [if_neg q]
      exact ⟨Nat.le_refl _, by omega, fun _ => Bool.eq_false_iff.mpr q⟩
theorem rn_bd {c : Nat} : ∀ (d p : Nat), p + d = A → p ≤ rn b A c p ∧ rn b A c p ≤ A := by
  intro d
  induction d with
  | zero =>
    intro p hp
    have : p = A := by omega
    rw [this, rn_A]
    exact ⟨Nat.le_refl _, Nat.le_refl _⟩
  | succ d ih =>
    intro p hp
    rw [rn_lt (by omega)]
    by_cases q : cl b p = c
    · rw [if_pos q]
      obtain ⟨i1, i2⟩ := ih (p + 1) (by omega)
      exact ⟨by omega, i2⟩
    · rw [if_neg q]
      exact ⟨Nat.le_refl _, by omega⟩
theorem cl_3 (p : Nat) : cl b p = 1 ∨ cl b p = 2 ∨ cl b p = 3 := by
  unfold cl
  split
  · exact Or.inl rfl
  · split
    · exact Or.inr (Or.inl rfl)
    · exact Or.inr (Or.inr rfl)
theorem enT_bd {p : Nat} (h : p < A) : p < enT b A p ∧ enT b A p ≤ A := by
  unfold enT
  by_cases q : cl b p = 3
  · rw [if_pos q]
    exact ⟨by omega, by omega⟩
  · rw [if_neg q]
    have := rn_bd (b := b) (A := A) (c := cl b p) (A - (p + 1)) (p + 1) (by omega)
    exact ⟨by omega, this.2⟩
theorem tkB_le : ∀ k, tkB b A k ≤ A
  | 0 => (skp_bd A 0 (by omega)).2.1
  | k + 1 => by
    simp only [tkB]
    by_cases q : tkB b A k < A
    · rw [if_pos q]
      have := enT_bd (b := b) q
      exact (skp_bd (A - enT b A (tkB b A k)) _ (by omega)).2.1
    · rw [if_neg q]
      exact Nat.le_refl _
theorem tkB_ge : ∀ k, tkB b A k < A → k ≤ tkB b A k
  | 0 => fun _ => Nat.zero_le _
  | k + 1 => by
    simp only [tkB]
    by_cases q : tkB b A k < A
    · rw [if_pos q]
      intro _
      have e := enT_bd (b := b) q
      have s := (skp_bd (b := b) (A := A) (A - enT b A (tkB b A k)) (enT b A (tkB b A k)) (by omega)).1
      have := tkB_ge k q
      omega
    · rw [if_neg q]
      intro z
      exact absurd z (Nat.lt_irrefl _)
theorem tkB_blk : ∀ k, tkB b A k < A → blk b (tkB b A k) = false
  | 0 => (skp_bd A 0 (by omega)).2.2
  | k + 1 => by
    simp only [tkB]
    by_cases q : tkB b A k < A
    · rw [if_pos q]
      have e := enT_bd (b := b) q
      exact (skp_bd (b := b) (A := A) (A - enT b A (tkB b A k)) (enT b A (tkB b A k)) (by omega)).2.2
    · rw [if_neg q]
      intro z
      exact absurd z (Nat.lt_irrefl _)
/-- the class's view of a byte -/
theorem classOf_eq {S : am_M} (hS : S 1 = b) (hA : A ≤ 700) {p : Nat} (hp : p < A) : X5_classOf S (nI p) = nI (cl b p) := by
  unfold X5_classOf X5_classOf_J23 cl X8_isLetter X8_isDigit
  rw [jat_nI (by omega) (by omega), hS]
  by_cases h1 : b p < 97
  · rw [if_pos h1, if_pos h1, if_neg Bool.false_ne_true]
    by_cases h2 : b p < 48
    · rw [if_pos h2, if_pos h2, if_neg Bool.false_ne_true]
      rfl
    · rw [if_neg h2, if_neg h2]
      by_cases h3 : 57 < b p
      · rw [if_pos h3, if_pos h3, if_neg Bool.false_ne_true]
        rfl
      · rw [if_neg h3, if_neg h3, if_pos rfl]
        rfl
  · rw [if_neg h1, if_neg h1]
    by_cases h2 : 122 < b p
    · rw [if_pos h2, if_pos h2, if_neg Bool.false_ne_true]
      have g1 : ¬ b p < 48 := fun q => h1 (Int32.lt_trans q (by decide))
      have g2 : 57 < b p := Int32.lt_trans (by decide) h2
      rw [if_neg g1, if_neg g1, if_pos g2, if_pos g2, if_neg Bool.false_ne_true]
      rfl
    · rw [if_neg h2, if_neg h2, if_pos rfl]
      rfl
theorem isBlank_eq {S : am_M} (hS : S 1 = b) (hA : A ≤ 700) {p : Nat} (hp : p < A) : X5_isBlank S (nI p) = blk b p := by
  unfold X5_isBlank blk
  rw [jat_nI (by omega) (by omega), hS]
theorem blk_cl {p : Nat} (h : blk b p = true) : cl b p = 3 := by
  unfold blk at h
  unfold cl
  by_cases h1 : b p = 32
  · rw [h1]; rfl
  · rw [if_neg h1] at h
    by_cases h2 : b p = 10
    · rw [h2]; rfl
    · rw [if_neg h2] at h
      exact absurd h Bool.false_ne_true
theorem endOf_loop (n : Nat) {S : am_M} (hS : S 1 = b) (hA : A ≤ 700) {c : Nat} (hc : c ≤ 3) : ∀ (d p K : Nat), p + d = A → d < K → X5_endOf_L11 n S K (nI A) (nI c) (nI p) = some (nI (if c = 3 then p else rn b A c p)) := by
  intro d
  induction d with
  | zero =>
    intro p K hp hK
    obtain ⟨K, rfl⟩ : ∃ J, K = J + 1 := ⟨K - 1, by omega⟩
    have e : p = A := by omega
    simp only [X5_endOf_L11, X5_endOf_B11]
    rw [e, if_pos (Int32.le_refl _), rn_A]
    split <;> rfl
  | succ d ih =>
    intro p K hp hK
    obtain ⟨K, rfl⟩ : ∃ J, K = J + 1 := ⟨K - 1, by omega⟩
    simp only [X5_endOf_L11, X5_endOf_B11]
    rw [if_neg (by rw [pu_le (by omega) (by omega)]; omega)]
    by_cases h3 : c = 3
    · rw [if_pos (show nI c = (3 : Int32) by rw [h3]; rfl), if_pos h3]
    · rw [if_neg (show ¬ nI c = (3 : Int32) from fun q => h3 ((nI_eq (b := 3) (by omega) (by omega)).mp q)), if_neg h3, classOf_eq hS hA (show p < A by omega), rn_lt (by omega), nI_1]
      have := cl_3 (b := b) p
      by_cases q : cl b p = c
      · rw [if_pos (by rw [q]), if_pos q, ih (p + 1) K (by omega) (by omega), if_neg h3]
      · rw [if_neg (fun e => q ((nI_eq (by omega) (by omega)).mp e)), if_neg q]
theorem endOf_eq (n : Nat) (hn : 2200 < n) {S : am_M} (hS : S 1 = b) (hA : A ≤ 700) {p : Nat} (hp : p < A) : X5_endOf n S (nI p) (nI A) = some (nI (enT b A p)) := by
  unfold X5_endOf enT
  have := cl_3 (b := b) p
  rw [classOf_eq hS hA hp, nI_1, endOf_loop n hS hA (show cl b p ≤ 3 by omega) (A - (p + 1)) (p + 1) n (by omega) (by omega)]
/-- a number's value -/
def nv (b : Nat → Int32) (p : Nat) : Nat → Int32
  | 0 => 0
  | i + 1 => nv b p i * 10 + b (p + i) - 48
theorem numOf_loop (n : Nat) {S : am_M} (hS : S 1 = b) {p e : Nat} (he : e ≤ 700) : ∀ (d i K : Nat), p + i + d = e → d < K → X5_numberOf_L25 n S K (nI e) (nv b p i) (nI (p + i)) = some (nv b p (e - p)) := by
  intro d
  induction d with
  | zero =>
    intro i K hp hK
    obtain ⟨K, rfl⟩ : ∃ J, K = J + 1 := ⟨K - 1, by omega⟩
    simp only [X5_numberOf_L25, X5_numberOf_B25]
    rw [if_pos (by rw [pu_le (by omega) (by omega)]; omega), show e - p = i by omega]
  | succ d ih =>
    intro i K hp hK
    obtain ⟨K, rfl⟩ : ∃ J, K = J + 1 := ⟨K - 1, by omega⟩
    simp only [X5_numberOf_L25, X5_numberOf_B25]
    rw [if_neg (by rw [pu_le (by omega) (by omega)]; omega), jat_nI (by omega) (by omega), hS, nI_1]
    exact ih (i + 1) K (by omega) (by omega)
/-- a token's number to the class -/
def NM (b : Nat → Int32) (A p : Nat) : Int32 := if cl b p = 2 then (if enT b A p - p ≤ 4 then nv b p (enT b A p - p) else -1) else 0
theorem numOf_eq (n : Nat) (hn : 2200 < n) {S : am_M} (hS : S 1 = b) (hA : A ≤ 700) {p : Nat} (hp : p < A) : X5_numberOf n S (nI p) (nI (enT b A p)) = some (NM b A p) := by
  have e := enT_bd (b := b) hp
  have c3 := cl_3 (b := b) p
  unfold X5_numberOf NM
  rw [classOf_eq hS hA hp]
  by_cases q : cl b p = 2
  · rw [if_pos (show nI (cl b p) = (2 : Int32) by rw [q]; rfl), if_pos q]
    obtain ⟨w, hw⟩ : ∃ w, enT b A p = p + w := ⟨enT b A p - p, by omega⟩
    rw [hw, nI_asub, show p + w - p = w by omega]
    by_cases q4 : w ≤ 4
    · rw [if_pos (show nI w ≤ (4 : Int32) from (nI_leI (b := 4) (by omega) (by omega)).mpr q4), if_pos q4]
      have := numOf_loop n hS (p := p) (e := p + w) (by omega) w 0 n (by omega) (by omega)
      rw [show p + w - p = w by omega] at this
      exact this
    · rw [if_neg (show ¬ nI w ≤ (4 : Int32) from fun z => q4 ((nI_leI (b := 4) (by omega) (by omega)).mp z)), if_neg q4]
  · rw [if_neg (show ¬ nI (cl b p) = (2 : Int32) from fun z => q ((nI_eq (b := 2) (by omega) (by omega)).mp z)), if_neg q]
end TOK
