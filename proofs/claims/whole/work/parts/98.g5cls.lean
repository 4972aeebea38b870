/-! THE CLASS READS: joints and parentheses -/
def setB (w d : Nat) : Nat := w ||| (1 <<< d)
def clrB (w d : Nat) : Nat := w &&& (255 ^^^ (1 <<< d))
theorem setB_I : ∀ w, w < 256 → ∀ d, d < 8 → nI w ||| (1 <<< (nI d &&& 31)) = nI (setB w d) := by decide +kernel
theorem clrB_I : ∀ w, w < 256 → ∀ d, d < 8 → nI w &&& ((1 <<< (nI d &&& 31)) ^^^ (-1)) = nI (clrB w d) := by decide +kernel
theorem setB_lt : ∀ w, w < 256 → ∀ d, d < 8 → setB w d < 256 := by decide +kernel
theorem clrB_lt : ∀ w, w < 256 → ∀ d, d < 8 → clrB w d < 256 := by decide +kernel
theorem setB_bit : ∀ w, w < 256 → ∀ d, d < 8 → ∀ e, e < 8 → (setB w d).testBit e = if e = d then true else w.testBit e := by decide +kernel
theorem clrB_bit : ∀ w, w < 256 → ∀ d, d < 8 → ∀ e, e < 8 → (clrB w d).testBit e = if e = d then false else w.testBit e := by decide +kernel
def zM : am_M := fun _ _ => 0
theorem jo_z (S : am_M) (a s : Int32) : X1_jointOf_J19 S a s = X1_jointOf_J19 zM a s := rfl
theorem jo_no : ∀ j, j < 356 → (j = 142 ∨ j = 143 ∨ j = 145 ∨ j = 147 ∨ j = 160 ∨ j = 161) ∨ (X1_jointOf_J19 zM (nI j) 0 = 0 ∧ X1_jointOf_J19 zM (nI j) 1 = 0) := by decide +kernel
section CLS
variable {b : Nat → Int32} {A K0 k : Nat} {S : am_M}
theorem jointOf_C {z0 d w : Nat} {C J : List Int32} (h : aI b A K0 z0 k C J d w S) (a : Int32) : X1_jointOf S a = X1_jointOf_J19 zM a (if w.testBit d = true then 0 else 1) := by
  obtain ⟨-, -, -, -, -, -, h9, d7, h10, w256⟩ := h
  unfold X1_jointOf
  rw [h9, h10]
  by_cases q : w.testBit d = true
  · rw [if_pos q, if_neg (fun z => by have := (low_bit0 w w256 d (by omega)).mp z; rw [q] at this; exact Bool.false_ne_true this.symm)]
    rfl
  · rw [if_neg q, if_pos ((low_bit0 w w256 d (by omega)).mpr (Bool.eq_false_iff.mpr q))]
    rfl
/-- joints that rank high enough go to the code -/
theorem pop_C (n : Nat) (r : Int32) {z0 d w : Nat} {J : List Int32} (hJ : ∀ x, J.head? = some x → X1_rankOf x < r) : ∀ (P C : List Int32) (K : Nat) (S : am_M), aI b A K0 z0 k C (P ++ J) d w S → (∀ x ∈ P, ¬ X1_rankOf x < r) → (P ++ J).length ≤ 40 → z0 + C.length + P.length < 900 → P.length < K → ∃ S', X1_popDownTo_L0 n K S r = some S' ∧ aI b A K0 z0 k (C ++ P) J d w S' ∧ fA z0 S S' := by
  intro P
  induction P with
  | nil =>
    intro C K S h hP h40 h9 hK
    obtain ⟨K, rfl⟩ : ∃ J, K = J + 1 := ⟨K - 1, by omega⟩
    rw [List.append_nil]
    rw [List.nil_append] at h h40
    refine ⟨S, ?_, h, fA_r⟩
    simp only [X1_popDownTo_L0, X1_popDownTo_B0]
    rw [h.2.2.2.2.1]
    cases J with
    | nil => rw [if_pos (show nI ([] : List Int32).length ≤ 0 by decide)]
    | cons x J =>
      have l : (x :: J).length = J.length + 1 := rfl
      rw [l] at h40
      have e : S 16 J.length = x := by
        have := h.2.2.2.2.2.1 0 (by rw [l]; omega)
        rw [l] at this
        exact this
      rw [l, if_neg (show ¬ nI (J.length + 1) ≤ 0 from fun q => by have := (nI_leI (b := 0) (by omega) (by omega)).mp q; omega), sub1, jat_nI (by omega) (by omega), e, if_pos (hJ x rfl)]
  | cons x P ih =>
    intro C K S h hP h40 h9 hK
    obtain ⟨K, rfl⟩ : ∃ J, K = J + 1 := ⟨K - 1, by omega⟩
    have l : (x :: P ++ J).length = (P ++ J).length + 1 := rfl
    have lp : (x :: P).length = P.length + 1 := rfl
    rw [l] at h40
    rw [lp] at h9 hK
    have e : S 16 (P ++ J).length = x := by
      have := h.2.2.2.2.2.1 0 (by rw [l]; omega)
      rw [l] at this
      exact this
    obtain ⟨h1, h2, h3, h4, h5, h6, h7, h8, h9', h10⟩ := h
    have A1 : aI b A K0 z0 k C (P ++ J) d w (sC S 0 (am_u (S 0) 8 (nI (P ++ J).length))) := ⟨h1, h2, h3, h4, rfl, fun i hi => by
      have := h6 (i + 1) (by rw [l]; omega)
      rw [l, show (P ++ J).length + 1 - 1 - (i + 1) = (P ++ J).length - 1 - i by omega] at this
      exact this, h7, h8, h9', h10⟩
    obtain ⟨S1, e1, e2, e3, e4⟩ := aI_emit A1 (by omega) x
    obtain ⟨S', i1, i2, i3⟩ := ih (C ++ [x]) K S1 e3 (fun y hy => hP y (List.mem_cons_of_mem _ hy)) (by omega) (by rw [List.length_append]; show z0 + (C.length + 1) + P.length < 900; omega) (by omega)
    refine ⟨S', ?_, by rw [List.append_assoc] at i2; exact i2, fA_t (S1 := sC S 0 (am_u (S 0) 8 (nI (P ++ J).length))) ⟨fun c q1 q2 q3 q4 q5 => sC_ne q1, fun j q1 q2 q3 q4 q5 => am_u_ne q3, fun _ _ => rfl, fun _ _ => rfl, fun _ _ => rfl⟩ (fA_t e4 i3)⟩
    simp only [X1_popDownTo_L0, X1_popDownTo_B0]
    rw [h5, l, if_neg (show ¬ nI ((P ++ J).length + 1) ≤ 0 from fun q => by have := (nI_leI (b := 0) (by omega) (by omega)).mp q; omega), sub1, jat_nI (by omega) (by omega), e, if_neg (hP x List.mem_cons_self), e1]
    dsimp only [Option.bind]
    rw [put_6, ← e2]
    exact i1
/-- a joint -/
theorem push_C (n : Nat) (hn : 2200 < n) (hK : KB b A K0) {z0 d w : Nat} {C P J : List Int32} {j : Int32} (h : aI b A K0 z0 k C (P ++ J) d w S) (hk : k < K0) (hJ : ∀ x, J.head? = some x → X1_rankOf x < X1_rankOf j) (hP : ∀ x ∈ P, ¬ X1_rankOf x < X1_rankOf j) (h40 : (P ++ J).length < 40) (h9 : z0 + C.length + P.length < 900) : ∃ S', X1_push n S j = some S' ∧ aI b A K0 z0 (k + 1) (C ++ P) (j :: J) d (if X1_rankOf j = 0 then setB w d else w) S' ∧ fA z0 S S' := by
  have lPJ : (P ++ J).length = P.length + J.length := List.length_append
  obtain ⟨S1, p1, p2, p3⟩ := pop_C n (X1_rankOf j) hJ P C n S h hP (by omega) h9 (by omega)
  obtain ⟨h1, h2, h3, h4, h5, h6, h7, h8, h9', h10⟩ := p2
  have J29 : ∀ S2 : am_M, aI b A K0 z0 k (C ++ P) J d (if X1_rankOf j = 0 then setB w d else w) S2 → fA z0 S S2 → ∃ S', X1_push_J29 n S2 j = some S' ∧ aI b A K0 z0 (k + 1) (C ++ P) (j :: J) d (if X1_rankOf j = 0 then setB w d else w) S' ∧ fA z0 S S' := fun S2 g gf => by
    obtain ⟨g1, g2, g3, g4, g5, g6, g7, g8, g9, g10⟩ := g
    obtain ⟨S3, hS3⟩ : ∃ S3, S3 = sC (sC S2 0 (am_u (S2 0) 8 (nI (J.length + 1)))) 16 (upd (S2 16) J.length j) := ⟨_, rfl⟩
    have A3 : aI b A K0 z0 k (C ++ P) (j :: J) d (if X1_rankOf j = 0 then setB w d else w) S3 := by
      rw [hS3]
      refine ⟨g1, g2, g3, g4, rfl, fun i hi => ?_, g7, g8, g9, g10⟩
      have l : (j :: J).length = J.length + 1 := rfl
      rw [l] at hi ⊢
      show upd (S2 16) J.length j (J.length + 1 - 1 - i) = _
      cases i with
      | zero => exact upd_eq
      | succ i =>
        rw [upd_ne (by omega), show J.length + 1 - 1 - (i + 1) = J.length - 1 - i by omega]
        exact g6 i (by omega)
    obtain ⟨a1, a2⟩ := aI_adv A3 hk
    refine ⟨_, ?_, a1, fA_t (fA_t gf ⟨fun c q1 q2 q3 q4 q5 => by rw [hS3, sC_ne q5, sC_ne q1], fun y q1 q2 q3 q4 q5 => by rw [hS3]; exact am_u_ne q3, fun _ _ => by rw [hS3], fun _ _ => by rw [hS3], fun _ _ => by rw [hS3]⟩) a2⟩
    unfold X1_push_J29
    rw [g5, nI_1, jput_nI (by omega) (by omega), ← hS3, adv_C hK A3.1 hk]
    dsimp only [Option.bind]
    rw [put_1]
  unfold X1_push X1_popDownTo
  rw [p1]
  dsimp only [Option.bind]
  by_cases r0 : X1_rankOf j = 0
  · rw [if_pos r0, h7, h9', setB_I w h10 d (by omega)]
    rw [if_pos r0] at J29 ⊢
    refine J29 _ ⟨h1, h2, h3, h4, h5, h6, h7, h8, rfl, setB_lt w h10 d (by omega)⟩ (fA_t p3 ⟨fun c q1 q2 q3 q4 q5 => sC_ne q1, fun y q1 q2 q3 q4 q5 => am_u_ne q5, fun _ _ => rfl, fun _ _ => rfl, fun _ _ => rfl⟩)
  · rw [if_neg r0]
    rw [if_neg r0] at J29 ⊢
    exact J29 S1 ⟨h1, h2, h3, h4, h5, h6, h7, h8, h9', h10⟩ p3
/-- a parenthesis closes -/
theorem close_C (n : Nat) (hn : 2200 < n) (hK : KB b A K0) {z0 d w : Nat} {C P J : List Int32} (h : aI b A K0 z0 k C (P ++ 0 :: J) (d + 1) w S) (hk : k < K0) (hP : ∀ x ∈ P, ¬ X1_rankOf x < 0) (h40 : (P ++ 0 :: J).length ≤ 40) (h9 : z0 + C.length + P.length < 900) : ∃ S', X1_closeParenthesis n S = some S' ∧ aI b A K0 z0 (k + 1) (C ++ P) J d w S' ∧ fA z0 S S' := by
  have lPJ : (P ++ 0 :: J).length = P.length + (J.length + 1) := List.length_append
  obtain ⟨S1, p1, p2, p3⟩ := pop_C n 0 (J := 0 :: J) (fun x hx => by
    have : (0 : Int32) = x := Option.some.inj hx
    rw [← this]
    decide) P C n S h hP h40 h9 (by omega)
  obtain ⟨h1, h2, h3, h4, h5, h6, h7, h8, h9', h10⟩ := p2
  have l : ((0 : Int32) :: J).length = J.length + 1 := rfl
  obtain ⟨S3, hS3⟩ : ∃ S3, S3 = sC S1 0 (am_u (am_u (S1 0) 8 (nI J.length)) 9 (nI d)) := ⟨_, rfl⟩
  have A3 : aI b A K0 z0 k (C ++ P) J d w S3 := by
    rw [hS3]
    refine ⟨h1, h2, h3, h4, rfl, fun i hi => ?_, rfl, by omega, h9', h10⟩
    have := h6 (i + 1) (by rw [l]; omega)
    rw [l, show J.length + 1 - 1 - (i + 1) = J.length - 1 - i by omega] at this
    exact this
  obtain ⟨a1, a2⟩ := aI_adv A3 hk
  refine ⟨_, ?_, a1, fA_t (fA_t p3 ⟨fun c q1 q2 q3 q4 q5 => by rw [hS3, sC_ne q1], fun y q1 q2 q3 q4 q5 => by rw [hS3]; show am_u (am_u (S1 0) 8 (nI J.length)) 9 (nI d) y = _; rw [am_u_ne q4, am_u_ne q3], fun _ _ => by rw [hS3], fun _ _ => by rw [hS3], fun _ _ => by rw [hS3]⟩) a2⟩
  unfold X1_closeParenthesis X1_popDownTo
  rw [p1]
  dsimp only [Option.bind]
  rw [h5, h7, l, sub1, sub1, ← hS3, adv_C hK A3.1 hk]
  dsimp only
  rw [put_1]
/-- a parenthesis opens -/
theorem open_C (n : Nat) (hK : KB b A K0) {z0 d w : Nat} {C J : List Int32} (h : aI b A K0 z0 k C J d w S) (hd : d < 7) (h40 : J.length < 40) (hs : SK b A (tkB b A k) = 140) (hnm : NMT b A (tkB b A k) = 0) : ∃ S', (∀ K i, i ≤ 700 → X1_ask_L51 n (K + 1) S 1 (nI i) = X1_ask_L51 n K S' 1 (nI (i + 1))) ∧ aI b A K0 z0 (k + 1) C (0 :: J) (d + 1) (clrB w (d + 1)) S' ∧ fA z0 S S' := by
  have hk : k < K0 := not_end hK h.1 (by rw [hs]; decide)
  have h' := h
  obtain ⟨h1, h2, h3, h4, h5, h6, h7, h8, h9, h10⟩ := h
  obtain ⟨S3, hS3⟩ : ∃ S3, S3 = sC (sC S 0 (am_u (am_u (am_u (S 0) 8 (nI (J.length + 1))) 9 (nI (d + 1))) 10 (nI (clrB w (d + 1))))) 16 (upd (S 16) J.length 0) := ⟨_, rfl⟩
  have A3 : aI b A K0 z0 k C (0 :: J) (d + 1) (clrB w (d + 1)) S3 := by
    rw [hS3]
    refine ⟨h1, h2, h3, h4, rfl, fun i hi => ?_, rfl, by omega, rfl, clrB_lt w h10 (d + 1) (by omega)⟩
    have l : ((0 : Int32) :: J).length = J.length + 1 := rfl
    rw [l] at hi ⊢
    show upd (S 16) J.length 0 (J.length + 1 - 1 - i) = _
    cases i with
    | zero => exact upd_eq
    | succ i =>
      rw [upd_ne (by omega), show J.length + 1 - 1 - (i + 1) = J.length - 1 - i by omega]
      exact h6 i (by omega)
  obtain ⟨a1, a2⟩ := aI_adv A3 hk
  have P : X1_part S = some (true, sC S3 1 (am_u (S3 1) 6 (nI (k + 1)))) := by
    unfold X1_part X1_part_J35 X1_part_J178
    rw [sort_C hK h1, num_C hK h1, h7, hs, hnm, if_neg (show ¬ (140 : Int32) = 27 by decide), if_pos rfl, if_neg (show ¬ (7 : Int32) ≤ nI d from fun q => by have := (nI_leI (a := 7) (by omega) (by omega)).mp q; omega), if_neg (show ¬ (0 : Int32) = -1 by decide), if_neg (show ¬ (140 : Int32) = 27 by decide), if_pos rfl, h5, h9, nI_1, nI_1, clrB_I w h10 (d + 1) (by omega), jput_nI h40 (by omega), ← hS3, adv_C hK A3.1 hk]
    dsimp only [Option.bind]
    rw [if_pos rfl, put_1]
  refine ⟨_, fun K i hi => ?_, a1, fA_t ⟨fun c q1 q2 q3 q4 q5 => by rw [hS3, sC_ne q5, sC_ne q1], fun y q1 q2 q3 q4 q5 => by rw [hS3]; show am_u (am_u (am_u (S 0) 8 (nI (J.length + 1))) 9 (nI (d + 1))) 10 (nI (clrB w (d + 1))) y = _; rw [am_u_ne q5, am_u_ne q4, am_u_ne q3], fun _ _ => by rw [hS3], fun _ _ => by rw [hS3], fun _ _ => by rw [hS3]⟩ a2⟩
  simp only [X1_ask_L51, X1_ask_B51, X1_ask_J134]
  rw [if_neg (show ¬ (700 : Int32) < nI i from fun y => by have := (nI_ltN (a := 700) (by omega) (by omega)).mp y; omega), if_pos h2, if_neg (show ¬ (1 : Int32) = 0 by decide), P, nI_1]
  rfl
end CLS
