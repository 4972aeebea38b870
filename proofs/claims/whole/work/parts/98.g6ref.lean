/-! THE REFERENCE READS: what one call does; and both after a FAULT -/
def rI (b : Nat → Int32) (A q0 k : Nat) (Q : List Int32) (R : am_M) : Prop := tkR b A k R ∧ R 0 18 = 0 ∧ R 0 21 = nI (q0 + Q.length) ∧ ∀ i, i < Q.length → R 5 (1080 + q0 + i) = Q.getD i 0
def fE (q0 : Nat) (R R' : am_M) : Prop := (∀ c, c ≠ 0 → c ≠ 5 → R' c = R c) ∧ (∀ j, j < 11 ∨ j = 12 ∨ j = 20 ∨ 22 ≤ j → R' 0 j = R 0 j) ∧ ∀ i, i < 1080 + q0 → R' 5 i = R 5 i
section REF
variable {b : Nat → Int32} {A K0 k q0 : Nat} {R S : am_M}
theorem fE_r : fE q0 R R := ⟨fun _ _ _ => rfl, fun _ _ => rfl, fun _ _ => rfl⟩
theorem fE_t {R1 R2 : am_M} (a : fE q0 R R1) (c : fE q0 R1 R2) : fE q0 R R2 := ⟨fun x h1 h2 => (c.1 x h1 h2).trans (a.1 x h1 h2), fun j h => (c.2.1 j h).trans (a.2.1 j h), fun i h => (c.2.2 i h).trans (a.2.2 i h)⟩
theorem emit_R {Q : List Int32} (h : rI b A q0 k Q R) (hq : q0 + Q.length < 1080) (v : Int32) : ∃ R', X8_emit R v = some R' ∧ rI b A q0 k (Q ++ [v]) R' ∧ fE q0 R R' := by
  obtain ⟨h1, h2, h3, h4⟩ := h
  refine ⟨sC (sC R 0 (am_u (R 0) 21 (nI (q0 + Q.length + 1)))) 5 (upd (R 5) (1080 + (q0 + Q.length)) v), ?_, ⟨⟨⟨?_, h1.1.2⟩, h1.2⟩, h2, ?_, fun i hi => ?_⟩, ⟨fun c q1 q2 => by rw [sC_ne q2, sC_ne q1], fun j hj => am_u_ne (by omega), fun i hi => upd_ne (by omega)⟩⟩
  · unfold X8_emit
    rw [if_pos h2, h3, show (1080 : Int32) + nI (q0 + Q.length) = nI (1080 + (q0 + Q.length)) from nI_add 1080 _, if_neg (pu_g (n := 2160) (by omega) (by omega)), nI_clamp (by omega), nI_1]
  · exact h1.1.1
  · rw [List.length_append]
    rfl
  · show upd (R 5) (1080 + (q0 + Q.length)) v (1080 + q0 + i) = _
    rw [List.length_append] at hi
    have hi' : i < Q.length + 1 := hi
    by_cases q : i = Q.length
    · rw [q, show 1080 + q0 + Q.length = 1080 + (q0 + Q.length) by omega, upd_eq, gD_last]
    · rw [upd_ne (by omega), gD_app (by omega)]
      exact h4 i (by omega)
theorem wrong_R (h : tkR b A k R) (h2 : R 0 18 = 0) (a : Int32) : X8_wrong R a = some (sC R 0 (am_u (am_u (R 0) 18 a) 19 (nI (tkB b A k)))) := by
  unfold X8_wrong
  rw [if_pos h2, h.2.1]
theorem step_R (n : Nat) (hn : 2200 < n) (hK : KB b A K0) {Q : List Int32} (h : rI b A q0 k Q R) (hk : k < K0) : ∃ R', X8_stepOn n R = some R' ∧ rI b A q0 (k + 1) Q R' ∧ fE q0 R R' := by
  obtain ⟨h1, h2, h3, h4⟩ := h
  obtain ⟨g, g1, g2, g3⟩ := stepOn_k n hn hK.1 hK.2.1 h1 (hK.2.2.2.2 k hk)
  exact ⟨_, g1, ⟨g3, (g2 18 (by omega)).trans h2, (g2 21 (by omega)).trans h3, h4⟩, ⟨fun c q1 q2 => sC_ne q1, fun j hj => g2 j (by omega), fun _ _ => rfl⟩⟩
/-! after a FAULT the reference does nothing more -/
theorem emit_f (h : ¬ R 0 18 = 0) (v : Int32) : X8_emit R v = some R := by
  unfold X8_emit
  rw [if_neg h]
theorem isSign_f (h : ¬ R 0 18 = 0) (c : Int32) : X8_isSign R c = false := by
  unfold X8_isSign
  rw [if_neg h]
theorem wrong_f (h : ¬ R 0 18 = 0) (a : Int32) : X8_wrong R a = some R := by
  unfold X8_wrong
  rw [if_neg h]
theorem part_f (n : Nat) (rE : am_M → Int32 → Option am_M) (h : ¬ R 0 18 = 0) (a : Int32) : X8_readPart n rE R a = some R := by
  unfold X8_readPart
  rw [if_neg h]
theorem prodL_f (n : Nat) (hn : 2200 < n) (rE : am_M → Int32 → Option am_M) (h : ¬ R 0 18 = 0) (a : Int32) (K : Nat) : X8_readProduct_L5 n rE (K + 1) R a = some R := by
  simp only [X8_readProduct_L5, X8_readProduct_B5]
  rw [isSign_f h, isSign_f h, if_neg Bool.false_ne_true, if_neg Bool.false_ne_true]
theorem prod_f (n : Nat) (hn : 2200 < n) (rE : am_M → Int32 → Option am_M) (h : ¬ R 0 18 = 0) (a : Int32) : X8_readProduct n rE R a = some R := by
  obtain ⟨K, hK⟩ : ∃ K, n = K + 1 := ⟨n - 1, by omega⟩
  unfold X8_readProduct
  rw [part_f n rE h]
  dsimp only [Option.bind]
  have := prodL_f n hn rE h a K
  rw [← hK] at this
  exact this
theorem sumL_f (n : Nat) (hn : 2200 < n) (rE : am_M → Int32 → Option am_M) (h : ¬ R 0 18 = 0) (a : Int32) (K : Nat) : X8_readSum_L5 n rE (K + 1) R a = some R := by
  simp only [X8_readSum_L5, X8_readSum_B5]
  rw [isSign_f h, isSign_f h, if_neg Bool.false_ne_true, if_neg Bool.false_ne_true]
theorem sum_f (n : Nat) (hn : 2200 < n) (rE : am_M → Int32 → Option am_M) (h : ¬ R 0 18 = 0) (a : Int32) : X8_readSum n rE R a = some R := by
  obtain ⟨K, hK⟩ : ∃ K, n = K + 1 := ⟨n - 1, by omega⟩
  unfold X8_readSum
  rw [prod_f n hn rE h]
  dsimp only [Option.bind]
  have := sumL_f n hn rE h a K
  rw [← hK] at this
  exact this
theorem exprJ_f (n : Nat) (hn : 2200 < n) (rE : am_M → Int32 → Option am_M) (h : ¬ R 0 18 = 0) (a : Int32) : X8_readExpression_J62 n rE R a = some R := by
  unfold X8_readExpression_J62
  rw [sum_f n hn rE h]
  dsimp only [Option.bind]
  rw [isSign_f h, isSign_f h, if_neg Bool.false_ne_true, if_neg Bool.false_ne_true]
theorem expr_f (n : Nat) (d : Nat) (h : ¬ R 0 18 = 0) (a : Int32) : X8_readExpressionR n (d + 1) R a = some R := by
  simp only [X8_readExpressionR]
  unfold X8_readExpression
  rw [if_neg h]
theorem need_f (n : Nat) (h : ¬ R 0 18 = 0) (a : Int32) : X8_need n R a = some R := by
  unfold X8_need X8_need_J20
  rw [if_neg h, if_neg h]
theorem word_f (n : Nat) (h : ¬ R 0 18 = 0) (a : Nat) : X8_word n R a = some R := by
  unfold X8_word X8_word_J20
  rw [if_neg h, if_neg h]
theorem readNumber_f (n : Nat) (h : ¬ R 0 18 = 0) (x y : Int32) : X8_readNumber n R x y = some (0, R) := by
  unfold X8_readNumber
  rw [if_neg h]
theorem readVar_f (n : Nat) (h : ¬ R 0 18 = 0) : X8_readVar n R = some (0, R) := by
  unfold X8_readVar
  rw [if_neg h]
/-! after a FAULT the class goes on, and keeps it -/
def kp (S S' : am_M) : Prop := S' 0 2 = S 0 2 ∧ S' 0 3 = S 0 3
theorem kp_t {S1 S2 : am_M} (a : kp S S1) (c : kp S1 S2) : kp S S2 := ⟨c.1.trans a.1, c.2.trans a.2⟩
theorem kp_n {S1 : am_M} (a : kp S S1) (h : ¬ S 0 2 = 0) : ¬ S1 0 2 = 0 := by rw [a.1]; exact h
theorem pop_any (n : Nat) (r : Int32) : ∀ (h K : Nat) (S : am_M), h < 2000 → S 0 8 = nI h → h < K → ∃ S', X1_popDownTo_L0 n K S r = some S' ∧ kp S S' := by
  intro h
  induction h with
  | zero =>
    intro K S _ h8 hK
    obtain ⟨K, rfl⟩ : ∃ J, K = J + 1 := ⟨K - 1, by omega⟩
    refine ⟨S, ?_, rfl, rfl⟩
    simp only [X1_popDownTo_L0, X1_popDownTo_B0]
    rw [h8, if_pos (show nI 0 ≤ 0 from Int32.le_refl _)]
  | succ h ih =>
    intro K S hh h8 hK
    obtain ⟨K, rfl⟩ : ∃ J, K = J + 1 := ⟨K - 1, by omega⟩
    simp only [X1_popDownTo_L0, X1_popDownTo_B0]
    rw [h8, if_neg (show ¬ nI (h + 1) ≤ 0 from fun q => by have := (nI_leI (b := 0) (by omega) (by omega)).mp q; omega), sub1]
    by_cases c : X1_rankOf (jat 40 (S 16) (nI h)) < r
    · rw [if_pos c]
      exact ⟨S, rfl, rfl, rfl⟩
    · rw [if_neg c]
      obtain ⟨f, g, e⟩ := emit_any (S := sC S 0 (am_u (S 0) 8 (nI h))) (jat 40 (S 16) (nI h))
      rw [e]
      dsimp only [Option.bind]
      rw [put_6]
      obtain ⟨S', i1, i2⟩ := ih K (sC (sC (sC S 0 (am_u (S 0) 8 (nI h))) 6 f) 13 g) (by omega) rfl (by omega)
      exact ⟨S', i1, i2.1, i2.2⟩
/-- an EXPR's end in the class, whatever came before -/
theorem end_any (n : Nat) (hn : 2200 < n) {h : Nat} (hh : h < 2000) (h8 : S 0 8 = nI h) : ∃ S', X1_ask_J152 n S = some S' ∧ kp S S' := by
  obtain ⟨S1, i1, i2⟩ := pop_any n 0 h n S hh h8 (by omega)
  obtain ⟨f, g, e⟩ := emit_any (S := S1) (-20)
  unfold X1_ask_J152 X1_popDownTo
  rw [i1]
  dsimp only [Option.bind]
  rw [e]
  dsimp only
  rw [put_6]
  exact ⟨_, rfl, i2.1, i2.2⟩
theorem j140_f (n : Nat) (h : ¬ S 0 2 = 0) : X1_ask_J140 n S = X1_ask_J152 n S := by
  unfold X1_ask_J140
  rw [refuse_f h]
  split <;> rfl
theorem ask_f (n : Nat) (hn : 2200 < n) (h : ¬ S 0 2 = 0) (x y z : Int32) : ∃ S', X1_ask n S x y z = some S' ∧ kp S S' := by
  have core : ∀ (S1 : am_M) (s0 : Int32), kp S S1 → S1 0 8 = nI 0 → ∃ S', X1_ask_J42 n S1 s0 = some S' ∧ kp S S' := fun S1 s0 k1 k8 => by
    obtain ⟨K, hK⟩ : ∃ K, n = K + 1 := ⟨n - 1, by omega⟩
    obtain ⟨S2, hS2⟩ : ∃ S2, S2 = sC S1 0 (am_u (S1 0) 10 s0) := ⟨_, rfl⟩
    have k2 : kp S S2 := by rw [hS2]; exact ⟨k1.1, k1.2⟩
    obtain ⟨S', i1, i2⟩ := end_any n hn (S := S2) (h := 0) (by omega) (by rw [hS2]; exact k8)
    refine ⟨S', ?_, kp_t k2 i2⟩
    unfold X1_ask_J42
    rw [← hS2]
    have : X1_ask_L51 n (K + 1) S2 1 0 = X1_ask_J140 n S2 := by
      simp only [X1_ask_L51, X1_ask_B51]
      rw [if_neg (show ¬ (700 : Int32) < 0 by decide), if_neg (kp_n k2 h)]
    rw [← hK] at this
    rw [this, j140_f n (kp_n k2 h), i1]
  unfold X1_ask
  split
  · exact core _ 1 ⟨rfl, rfl⟩ rfl
  · exact core _ 0 ⟨rfl, rfl⟩ rfl
theorem need1_f (h : ¬ S 0 2 = 0) (a : Int32) : ∃ S', X1_need S a = some S' ∧ kp S S' := by
  unfold X1_need
  split
  · obtain ⟨f, e⟩ := adv_any (S := S)
    rw [e]
    dsimp only [Option.bind]
    rw [put_1]
    exact ⟨_, rfl, rfl, rfl⟩
  · rw [refuse_f h]
    exact ⟨S, rfl, rfl, rfl⟩
theorem var_f (h : ¬ S 0 2 = 0) (a : Int32) : ∃ S', X1_variable S a = some S' ∧ kp S S' := by
  have j : ∀ x, X1_variable_J57 S x = some S := fun x => by
    unfold X1_variable_J57
    rw [refuse_f h]
    rfl
  have j2 : ∀ x, X1_variable_J45 S x = some S := fun x => by
    unfold X1_variable_J45
    split
    · exact j 1
    · exact j 3
  unfold X1_variable
  split
  · exact ⟨S, j2 _, rfl, rfl⟩
  · split
    · exact ⟨S, j2 _, rfl, rfl⟩
    · obtain ⟨f, e⟩ := adv_any (S := sC S 10 (jput 40 (S 10) a ((X5_sort (am_sub S 1)) - 11)))
      rw [e]
      dsimp only [Option.bind]
      rw [put_1]
      exact ⟨_, rfl, rfl, rfl⟩
theorem bound_f (h : ¬ S 0 2 = 0) (x y z : Int32) : ∃ S', X1_bound S x y z = some S' ∧ kp S S' := by
  unfold X1_bound
  rw [if_neg h]
  exact ⟨_, rfl, rfl, rfl⟩
end REF
