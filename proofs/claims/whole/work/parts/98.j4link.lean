/-! STEPS ARE READ: how they are linked -/
/-- from s, by the 'if's around it, to behind a -/
def pch (B : Nat → Int32) : Nat → Nat → Nat → Prop
  | 0, s, a => a < s ∧ B s = -2 - nI a
  | m + 1, s, a => (a < s ∧ B s = -2 - nI a) ∨ ∃ c, c < s ∧ B s = -2 - nI c ∧ pch B m c a
def bh (R : am_M) : Nat → Int32 := fun s => R 11 (40 + s)
section LINK
variable {n : Nat}
theorem m2 : ∀ c, c < 40 → (-2 - nI c : Int32) ≠ -1 ∧ -2 - (-2 - nI c) = nI c ∧ ¬ (-2 : Int32) < -2 - nI c := by decide
theorem rch_st {B B' : Nat → Int32} {y : Int32} (hy : y ≠ -1) : ∀ (m s : Nat), s < 40 → (∀ x, x ≤ s → B x ≠ -1 → B' x = B x) → rch B m s y → rch B' m s y := by
  intro m
  induction m with
  | zero =>
    intro s hs h r
    have r' : B s = y := r
    exact (h s (Nat.le_refl _) (by rw [r']; exact hy)).trans r'
  | succ m ih =>
    intro s hs h r
    rcases r with r | ⟨c, c1, c2, c3⟩
    · exact Or.inl ((h s (Nat.le_refl _) (by rw [r]; exact hy)).trans r)
    · exact Or.inr ⟨c, c1, (h s (Nat.le_refl _) (by rw [c2]; exact (m2 c (by omega)).1)).trans c2, ih c (by omega) (fun x hx => h x (by omega)) c3⟩
theorem pch_st {B B' : Nat → Int32} {a : Nat} : ∀ (m s : Nat), s < 40 → (∀ x, x ≤ s → B x ≠ -1 → B' x = B x) → pch B m s a → pch B' m s a := by
  intro m
  induction m with
  | zero =>
    intro s hs h r
    exact ⟨r.1, (h s (Nat.le_refl _) (by rw [r.2]; exact (m2 a (by have := r.1; omega)).1)).trans r.2⟩
  | succ m ih =>
    intro s hs h r
    rcases r with r | ⟨c, c1, c2, c3⟩
    · exact Or.inl ⟨r.1, (h s (Nat.le_refl _) (by rw [r.2]; exact (m2 a (by have := r.1; omega)).1)).trans r.2⟩
    · exact Or.inr ⟨c, c1, (h s (Nat.le_refl _) (by rw [c2]; exact (m2 c (by omega)).1)).trans c2, ih c (by omega) (fun x hx => h x (by omega)) c3⟩
theorem rch_0 {B : Nat → Int32} {y : Int32} {s : Nat} (h : B s = y) : ∀ m, rch B m s y
  | 0 => h
  | _ + 1 => Or.inl h
theorem pch_0 {B : Nat → Int32} {a s : Nat} (h : a < s) (h2 : B s = -2 - nI a) : ∀ m, pch B m s a
  | 0 => ⟨h, h2⟩
  | _ + 1 => Or.inl ⟨h, h2⟩
theorem pch_r {B : Nat → Int32} {a : Nat} {y : Int32} (h : B a = y) : ∀ (m s : Nat), pch B m s a → rch B (m + 1) s y := by
  intro m
  induction m with
  | zero => exact fun s r => Or.inr ⟨a, r.1, r.2, h⟩
  | succ m ih =>
    intro s r
    rcases r with r | ⟨c, c1, c2, c3⟩
    · exact Or.inr ⟨a, r.1, r.2, rch_0 h _⟩
    · exact Or.inr ⟨c, c1, c2, ih c c3⟩
theorem pch_p {B : Nat → Int32} {a a' : Nat} (ha : a' < a) (h : B a = -2 - nI a') : ∀ (m s : Nat), pch B m s a → pch B (m + 1) s a' := by
  intro m
  induction m with
  | zero => exact fun s r => Or.inr ⟨a, r.1, r.2, ha, h⟩
  | succ m ih =>
    intro s r
    rcases r with r | ⟨c, c1, c2, c3⟩
    · exact Or.inr ⟨a, r.1, r.2, pch_0 ha h _⟩
    · exact Or.inr ⟨c, c1, c2, ih c c3⟩
theorem rch_up {B : Nat → Int32} {y : Int32} : ∀ (m s : Nat), rch B m s y → rch B (m + 1) s y := by
  intro m
  induction m with
  | zero => exact fun s r => Or.inl r
  | succ m ih =>
    intro s r
    rcases r with r | ⟨c, c1, c2, c3⟩
    · exact Or.inl r
    · exact Or.inr ⟨c, c1, c2, ih c c3⟩
theorem pch_up {B : Nat → Int32} {a : Nat} : ∀ (m s : Nat), pch B m s a → pch B (m + 1) s a := by
  intro m
  induction m with
  | zero => exact fun s r => Or.inl r
  | succ m ih =>
    intro s r
    rcases r with r | ⟨c, c1, c2, c3⟩
    · exact Or.inl r
    · exact Or.inr ⟨c, c1, c2, ih c c3⟩
/-- what the reference finds behind a STEP -/
theorem fol_rch {σ : am_M} {y : Int32} (hy : -2 < y) : ∀ (m s K : Nat), s < 40 → rch (σ 11) m s y → m < K → X8_following_L7 n σ K (σ 11 s) = some y := by
  intro m
  induction m with
  | zero =>
    intro s K hs r hK
    obtain ⟨K, rfl⟩ : ∃ J, K = J + 1 := ⟨K - 1, by omega⟩
    have r' : σ 11 s = y := r
    simp only [X8_following_L7, X8_following_B7]
    rw [r', if_pos hy]
  | succ m ih =>
    intro s K hs r hK
    obtain ⟨K, rfl⟩ : ∃ J, K = J + 1 := ⟨K - 1, by omega⟩
    rcases r with r | ⟨c, c1, c2, c3⟩
    · simp only [X8_following_L7, X8_following_B7]
      rw [r, if_pos hy]
    · obtain ⟨e1, e2, e3⟩ := m2 c (by omega)
      simp only [X8_following_L7, X8_following_B7]
      rw [c2, if_neg e3, e2, if_neg (pu_g (n := 80) (by omega) (by omega)), nI_clamp (by omega)]
      exact ih c K (by omega) c3 (by omega)
/-- an 'if' is whole to the class -/
theorem close_loop {s M N2 : Nat} (hM : M ≤ N2) (hN : N2 ≤ 40) (hs : s < M) : ∀ (d x K : Nat) (C : am_M), x + d = M → s < x → d < K → C 0 7 = nI N2 → ∃ C', X3_close_L4 n K C (nI s) (nI M) (nI x) = some C' ∧ (∀ c, c ≠ 2 → c ≠ 3 → C' c = C c) ∧ (∀ j, C' 2 j = if j = s then (if M = s + 1 then nI N2 else nI (s + 1)) else if x ≤ j ∧ j < M ∧ C 2 j = nI M then nI N2 else C 2 j) ∧ (∀ j, C' 3 j = if j = s then nI M else if x ≤ j ∧ j < M ∧ C 3 j = nI M then nI N2 else C 3 j) := by
  intro d
  induction d with
  | zero =>
    intro x K C hx hsx hK h7
    obtain ⟨K, rfl⟩ : ∃ J, K = J + 1 := ⟨K - 1, by omega⟩
    have e : x = M := by omega
    subst e
    simp only [X3_close_L4, X3_close_B4, X3_close_J85]
    rw [if_pos (Int32.le_refl _), nI_1, h7, jput_nI (by omega) (by omega), jput_nI (by omega) (by omega), jput_nI (by omega) (by omega)]
    by_cases q : x = s + 1
    · rw [if_pos (show nI x = nI (s + 1) by rw [q])]
      refine ⟨_, rfl, fun c h2 h3 => by rw [sC_ne h3, sC_ne h2], fun j => ?_, fun j => ?_⟩
      · show upd (C 2) s (nI N2) j = _
        by_cases js : j = s
        · rw [if_pos js, if_pos q, js, upd_eq]
        · rw [if_neg js, upd_ne js, if_neg (by omega)]
      · show upd (C 3) s (nI x) j = _
        by_cases js : j = s
        · rw [if_pos js, js, upd_eq]
        · rw [if_neg js, upd_ne js, if_neg (by omega)]
    · rw [if_neg (show ¬ nI x = nI (s + 1) from fun z => q ((nI_eq (by omega) (by omega)).mp z))]
      refine ⟨_, rfl, fun c h2 h3 => by rw [sC_ne h3, sC_ne h2], fun j => ?_, fun j => ?_⟩
      · show upd (C 2) s (nI (s + 1)) j = _
        by_cases js : j = s
        · rw [if_pos js, if_neg q, js, upd_eq]
        · rw [if_neg js, upd_ne js, if_neg (by omega)]
      · show upd (C 3) s (nI x) j = _
        by_cases js : j = s
        · rw [if_pos js, js, upd_eq]
        · rw [if_neg js, upd_ne js, if_neg (by omega)]
  | succ d ih =>
    intro x K C hx hsx hK h7
    obtain ⟨K, rfl⟩ : ∃ J, K = J + 1 := ⟨K - 1, by omega⟩
    obtain ⟨C1, hC1⟩ : ∃ C1, C1 = if C 2 x = nI M then sC C 2 (upd (C 2) x (nI N2)) else C := ⟨_, rfl⟩
    obtain ⟨C2, hC2⟩ : ∃ C2, C2 = if C1 3 x = nI M then sC C1 3 (upd (C1 3) x (nI N2)) else C1 := ⟨_, rfl⟩
    have c17 : C1 0 7 = nI N2 := by
      rw [hC1]
      split
      · exact h7
      · exact h7
    have c27 : C2 0 7 = nI N2 := by
      rw [hC2]
      split
      · exact c17
      · exact c17
    have st : X3_close_L4 n (K + 1) C (nI s) (nI M) (nI x) = X3_close_L4 n K C2 (nI s) (nI M) (nI (x + 1)) := by
      rw [X3_close_L4]
      simp only [X3_close_B4, X3_close_J33, X3_close_J57]
      rw [if_neg (show ¬ nI M ≤ nI x from fun z => by have := (nI_leI (by omega) (by omega)).mp z; omega), jat_nI (show x < 40 by omega) (by omega), h7]
      have j33 : ∀ D : am_M, D 0 7 = nI N2 → (if jat 40 (D 3) (nI x) = nI M then X3_close_L4 n K (sC D 3 (jput 40 (D 3) (nI x) (D 0 7))) (nI s) (nI M) (nI x + 1) else X3_close_L4 n K D (nI s) (nI M) (nI x + 1)) = X3_close_L4 n K (if D 3 x = nI M then sC D 3 (upd (D 3) x (nI N2)) else D) (nI s) (nI M) (nI (x + 1)) := fun D hD => by
        rw [jat_nI (by omega) (by omega), nI_1, hD, jput_nI (by omega) (by omega)]
        split <;> rfl
      by_cases q : C 2 x = nI M
      · rw [if_pos q] at hC1 ⊢
        rw [jput_nI (show x < 40 by omega) (by omega), ← hC1, hC2]
        exact j33 C1 c17
      · rw [if_neg q] at hC1 ⊢
        rw [hC2, hC1]
        have := j33 C h7
        rw [h7] at this
        exact this
    obtain ⟨C', i1, i2, i3, i4⟩ := ih (x + 1) K C2 (by omega) (by omega) (by omega) c27
    have o1 : ∀ c, c ≠ 2 → C1 c = C c := fun c hc => by
      rw [hC1]
      split
      · exact sC_ne hc
      · rfl
    have o2 : ∀ c, c ≠ 3 → C2 c = C1 c := fun c hc => by
      rw [hC2]
      split
      · exact sC_ne hc
      · rfl
    have v2 : ∀ j, C2 2 j = if j = x ∧ C 2 x = nI M then nI N2 else C 2 j := fun j => by
      rw [o2 2 (by omega), hC1]
      by_cases q : C 2 x = nI M
      · rw [if_pos q]
        show upd (C 2) x (nI N2) j = _
        by_cases jx : j = x
        · rw [if_pos ⟨jx, q⟩, jx, upd_eq]
        · rw [if_neg (fun z => jx z.1), upd_ne jx]
      · rw [if_neg q, if_neg (fun z => q z.2)]
    have v3 : ∀ j, C2 3 j = if j = x ∧ C 3 x = nI M then nI N2 else C 3 j := fun j => by
      rw [hC2, o1 3 (by omega)]
      by_cases q : C 3 x = nI M
      · rw [if_pos q]
        show upd (C 3) x (nI N2) j = _
        by_cases jx : j = x
        · rw [if_pos ⟨jx, q⟩, jx, upd_eq]
        · rw [if_neg (fun z => jx z.1), upd_ne jx]
      · rw [if_neg q, if_neg (fun z => q z.2), o1 3 (by omega)]
    refine ⟨C', st.trans i1, fun c h2 h3 => (i2 c h2 h3).trans ((o2 c h3).trans (o1 c h2)), fun j => ?_, fun j => ?_⟩
    · rw [i3 j]
      by_cases js : j = s
      · rw [if_pos js, if_pos js]
      · rw [if_neg js, if_neg js]
        by_cases jx : j = x
        · rw [jx, if_neg (show ¬ (x + 1 ≤ x ∧ x < M ∧ _) from fun z => by omega), v2 x]
          by_cases q : C 2 x = nI M
          · rw [if_pos ⟨rfl, q⟩, if_pos ⟨Nat.le_refl _, by omega, q⟩]
          · rw [if_neg (fun z => q z.2), if_neg (fun z => q z.2.2)]
        · rw [show C2 2 j = C 2 j by rw [v2 j, if_neg (fun z => jx z.1)]]
          by_cases q : x ≤ j ∧ j < M ∧ C 2 j = nI M
          · rw [if_pos q, if_pos ⟨by omega, q.2⟩]
          · rw [if_neg q, if_neg (fun z => q ⟨by omega, z.2⟩)]
    · rw [i4 j]
      by_cases js : j = s
      · rw [if_pos js, if_pos js]
      · rw [if_neg js, if_neg js]
        by_cases jx : j = x
        · rw [jx, if_neg (show ¬ (x + 1 ≤ x ∧ x < M ∧ _) from fun z => by omega), v3 x]
          by_cases q : C 3 x = nI M
          · rw [if_pos ⟨rfl, q⟩, if_pos ⟨Nat.le_refl _, by omega, q⟩]
          · rw [if_neg (fun z => q z.2), if_neg (fun z => q z.2.2)]
        · rw [show C2 3 j = C 3 j by rw [v3 j, if_neg (fun z => jx z.1)]]
          by_cases q : x ≤ j ∧ j < M ∧ C 3 j = nI M
          · rw [if_pos q, if_pos ⟨by omega, q.2⟩]
          · rw [if_neg q, if_neg (fun z => q ⟨by omega, z.2⟩)]
end LINK
