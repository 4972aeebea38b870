/-! THE CLASS READS: what one call does -/
def tkC (b : Nat → Int32) (A K0 k : Nat) (S : am_M) : Prop := S 1 5 = nI (K0 + 1) ∧ S 1 6 = nI k ∧ k ≤ K0 ∧ ∀ j, j ≤ K0 → S 3 j = SK b A (tkB b A j) ∧ S 4 j = nI (tkB b A j) ∧ S 5 j = NMT b A (tkB b A j)
/-- K0 tokens and the end -/
def KB (b : Nat → Int32) (A K0 : Nat) : Prop := A ≤ 700 ∧ byB b A ∧ K0 ≤ A ∧ tkB b A K0 = A ∧ ∀ k, k < K0 → tkB b A k < A
section CLS
variable {b : Nat → Int32} {A K0 k : Nat} {S : am_M}
theorem sort_C (hK : KB b A K0) (h : tkC b A K0 k S) : X5_sort (am_sub S 1) = SK b A (tkB b A k) := by
  obtain ⟨h1, h2, h3, h4⟩ := h
  obtain ⟨k1, k2, k3, k4, k5⟩ := hK
  unfold X5_sort
  show jat 701 (S 3) (S 1 6) = _
  rw [h2, jat_nI (by omega) (by omega), (h4 k h3).1]
theorem num_C (hK : KB b A K0) (h : tkC b A K0 k S) : X5_number (am_sub S 1) = NMT b A (tkB b A k) := by
  obtain ⟨h1, h2, h3, h4⟩ := h
  obtain ⟨k1, k2, k3, k4, k5⟩ := hK
  unfold X5_number
  show jat 701 (S 5) (S 1 6) = _
  rw [h2, jat_nI (by omega) (by omega), (h4 k h3).2.2]
theorem put_1 {f : Nat → Int32} : am_put S 1 5 (sC (am_sub S 1) 0 f) = sC S 1 f := by
  funext c
  by_cases q : 1 ≤ c ∧ c < 1 + 5
  · rw [am_put_in q.1 q.2]
    by_cases z : c = 1
    · rw [z]
      rfl
    · rw [sC_ne (by omega), sC_ne z]
      show S (1 + (c - 1)) = S c
      rw [show 1 + (c - 1) = c by omega]
  · rw [am_put_ne (by omega), sC_ne (by omega)]
theorem adv_C (hK : KB b A K0) (h : tkC b A K0 k S) (hk : k < K0) : X5_advance (am_sub S 1) = some (sC (am_sub S 1) 0 (am_u (S 1) 6 (nI (k + 1)))) := by
  obtain ⟨h1, h2, h3, h4⟩ := h
  obtain ⟨k1, k2, k3, k4, k5⟩ := hK
  unfold X5_advance
  show (if (S 1 5 - 1) ≤ S 1 6 then some (am_sub S 1) else some (sC (am_sub S 1) 0 (am_u (S 1) 6 (S 1 6 + 1)))) = _
  rw [h1, h2, sub1, if_neg (by rw [pu_le (by omega) (by omega)]; omega), nI_1]
theorem tkC_adv (h : tkC b A K0 k S) (hk : k < K0) : tkC b A K0 (k + 1) (sC S 1 (am_u (S 1) 6 (nI (k + 1)))) := by
  obtain ⟨h1, h2, h3, h4⟩ := h
  exact ⟨h1, rfl, by omega, h4⟩
theorem adv_any : ∃ f, X5_advance (am_sub S 1) = some (sC (am_sub S 1) 0 f) := by
  unfold X5_advance
  split
  · exact ⟨(am_sub S 1) 0, by rw [sC_self]⟩
  · exact ⟨_, rfl⟩
theorem put_6 {f g : Nat → Int32} : am_put S 6 8 (sC (sC (am_sub S 6) 0 f) 7 g) = sC (sC S 6 f) 13 g := by
  funext c
  by_cases q : 6 ≤ c ∧ c < 6 + 8
  · rw [am_put_in q.1 q.2]
    by_cases z : c = 13
    · rw [z]
      rfl
    · by_cases y : c = 6
      · rw [y]
        rfl
      · rw [sC_ne (by omega), sC_ne (by omega), sC_ne z, sC_ne y]
        show S (6 + (c - 6)) = S c
        rw [show 6 + (c - 6) = c by omega]
  · rw [am_put_ne (by omega), sC_ne (by omega), sC_ne (by omega)]
theorem emit_C {z : Nat} (hz : S 6 9 = nI z) (z9 : z < 900) (v : Int32) : X3_emit (am_sub S 6) v = some (sC (sC (am_sub S 6) 0 (am_u (S 6) 9 (nI (z + 1)))) 7 (upd (S 13) z v)) := by
  unfold X3_emit
  show (if S 6 9 < 0 then _ else if Int32.ofNat 900 ≤ S 6 9 then _ else some (sC (sC (am_sub S 6) 0 (am_u (S 6) 9 (S 6 9 + 1))) 7 (upd (S 13) (S 6 9).toNatClampNeg v))) = _
  rw [hz, if_neg (nI_n0 (by omega)), if_neg (show ¬ Int32.ofNat 900 ≤ nI z from fun q => by have := (nI_leI (a := 900) (by omega) (by omega)).mp q; omega), nI_1, nI_clamp (by omega)]
theorem emit_any (v : Int32) : ∃ f g, X3_emit (am_sub S 6) v = some (sC (sC (am_sub S 6) 0 f) 7 g) := by
  have e : some (am_sub S 6) = some (sC (sC (am_sub S 6) 0 ((am_sub S 6) 0)) 7 ((am_sub S 6) 7)) := by
    rw [sC_self, sC_self]
  unfold X3_emit
  split
  · exact ⟨_, _, e⟩
  · split
    · exact ⟨_, _, e⟩
    · exact ⟨_, _, rfl⟩
theorem refuse_C (hK : KB b A K0) (h : tkC b A K0 k S) (h2 : S 0 2 = 0) (a : Int32) : X1_refuse S a = some (sC S 0 (am_u (am_u (S 0) 2 a) 3 (nI (tkB b A k)))) := by
  obtain ⟨t1, t2, t3, t4⟩ := h
  obtain ⟨k1, k2, k3, k4, k5⟩ := hK
  unfold X1_refuse
  rw [if_pos h2, t2, jat_nI (by omega) (by omega), (t4 k t3).2.1]
theorem refuse_f (h2 : ¬ S 0 2 = 0) (a : Int32) : X1_refuse S a = some S := by
  unfold X1_refuse
  rw [if_neg h2]
/-- an EXPR as the class has it: the code so far, the joints that wait (top first), how deep, where a compare was -/
def aI (b : Nat → Int32) (A K0 z0 k : Nat) (C J : List Int32) (d w : Nat) (S : am_M) : Prop := tkC b A K0 k S ∧ S 0 2 = 0 ∧ S 6 9 = nI (z0 + C.length) ∧ (∀ i, i < C.length → S 13 (z0 + i) = C.getD i 0) ∧ S 0 8 = nI J.length ∧ (∀ i, i < J.length → S 16 (J.length - 1 - i) = J.getD i 0) ∧ S 0 9 = nI d ∧ d ≤ 7 ∧ S 0 10 = nI w ∧ w < 256
def fA (z0 : Nat) (S S' : am_M) : Prop := (∀ c, c ≠ 0 → c ≠ 1 → c ≠ 6 → c ≠ 13 → c ≠ 16 → S' c = S c) ∧ (∀ j, j ≠ 2 → j ≠ 2 → j ≠ 8 → j ≠ 9 → j ≠ 10 → S' 0 j = S 0 j) ∧ (∀ j, j ≠ 6 → S' 1 j = S 1 j) ∧ (∀ j, j ≠ 9 → S' 6 j = S 6 j) ∧ ∀ i, i < z0 → S' 13 i = S 13 i
theorem fA_r {z0 : Nat} : fA z0 S S := ⟨fun _ _ _ _ _ _ => rfl, fun _ _ _ _ _ _ => rfl, fun _ _ => rfl, fun _ _ => rfl, fun _ _ => rfl⟩
theorem fA_t {z0 : Nat} {S1 S2 : am_M} (a : fA z0 S S1) (c : fA z0 S1 S2) : fA z0 S S2 := ⟨fun x h1 h2 h3 h4 h5 => (c.1 x h1 h2 h3 h4 h5).trans (a.1 x h1 h2 h3 h4 h5), fun j h1 h2 h3 h4 h5 => (c.2.1 j h1 h2 h3 h4 h5).trans (a.2.1 j h1 h2 h3 h4 h5), fun j h => (c.2.2.1 j h).trans (a.2.2.1 j h), fun j h => (c.2.2.2.1 j h).trans (a.2.2.2.1 j h), fun i h => (c.2.2.2.2 i h).trans (a.2.2.2.2 i h)⟩
theorem gD_app {C : List Int32} {x : Int32} {i : Nat} (hi : i < C.length) : (C ++ [x]).getD i 0 = C.getD i 0 := by
  rw [List.getD_eq_getElem?_getD, List.getD_eq_getElem?_getD, List.getElem?_append_left hi]
theorem gD_last {C : List Int32} {x : Int32} : (C ++ [x]).getD C.length 0 = x := by
  rw [List.getD_eq_getElem?_getD, List.getElem?_append_right (Nat.le_refl _), Nat.sub_self]
  rfl
/-- not the last token -/
theorem not_end (hK : KB b A K0) (h : tkC b A K0 k S) (hs : SK b A (tkB b A k) ≠ 28) : k < K0 := by
  rcases Nat.lt_or_ge k K0 with q | q
  · exact q
  · exfalso
    have e : k = K0 := by have := h.2.2.1; omega
    rw [e, hK.2.2.2.1] at hs
    unfold SK at hs
    rw [if_neg (Nat.lt_irrefl _)] at hs
    exact hs rfl
/-- the code is one longer -/
theorem aI_emit {z0 d w : Nat} {C J : List Int32} (h : aI b A K0 z0 k C J d w S) (z9 : z0 + C.length < 900) (v : Int32) : ∃ S', X3_emit (am_sub S 6) v = some (sC (sC (am_sub S 6) 0 (am_u (S 6) 9 (nI (z0 + C.length + 1)))) 7 (upd (S 13) (z0 + C.length) v)) ∧ S' = sC (sC S 6 (am_u (S 6) 9 (nI (z0 + C.length + 1)))) 13 (upd (S 13) (z0 + C.length) v) ∧ aI b A K0 z0 k (C ++ [v]) J d w S' ∧ fA z0 S S' := by
  obtain ⟨h1, h2, h3, h4, h5, h6, h7, h8, h9, h10⟩ := h
  refine ⟨_, emit_C h3 z9 v, rfl, ⟨h1, h2, ?_, fun i hi => ?_, h5, h6, h7, h8, h9, h10⟩, ⟨fun c q1 q2 q3 q4 q5 => by rw [sC_ne q4, sC_ne q3], fun _ _ _ _ _ _ => rfl, fun _ _ => rfl, fun j q => am_u_ne q, fun i hi => upd_ne (by omega)⟩⟩
  · rw [List.length_append]
    rfl
  · show upd (S 13) (z0 + C.length) v (z0 + i) = _
    rw [List.length_append] at hi
    have hi' : i < C.length + 1 := hi
    by_cases q : i = C.length
    · rw [q, upd_eq, gD_last]
    · rw [upd_ne (by omega), gD_app (by omega)]
      exact h4 i (by omega)
/-- a token further -/
theorem aI_adv {z0 d w : Nat} {C J : List Int32} (h : aI b A K0 z0 k C J d w S) (hk : k < K0) : aI b A K0 z0 (k + 1) C J d w (sC S 1 (am_u (S 1) 6 (nI (k + 1)))) ∧ fA z0 S (sC S 1 (am_u (S 1) 6 (nI (k + 1)))) := by
  obtain ⟨h1, h2⟩ := h
  exact ⟨⟨tkC_adv h1 hk, h2⟩, ⟨fun c q1 q2 q3 q4 q5 => sC_ne q2, fun _ _ _ _ _ _ => rfl, fun j q => am_u_ne q, fun _ _ => rfl, fun _ _ => rfl⟩⟩
/-- the loop over the tokens of an EXPR -/
theorem part_C (n : Nat) (hK : KB b A K0) {z0 d w : Nat} {C J : List Int32} (h : aI b A K0 z0 k C J d w S) (hd : d < 7) (z9 : z0 + C.length < 900) {v : Int32} (hv : (SK b A (tkB b A k) = 27 ∧ NMT b A (tkB b A k) = v ∧ v ≠ -1) ∨ (∃ u, u < 7 ∧ SK b A (tkB b A k) = nI (11 + u) ∧ NMT b A (tkB b A k) = 0 ∧ v = -1 - nI u)) : ∃ S', (∀ K i, i ≤ 700 → X1_ask_L51 n (K + 1) S 1 (nI i) = X1_ask_L51 n K S' 0 (nI (i + 1))) ∧ aI b A K0 z0 (k + 1) (C ++ [v]) J d w S' ∧ fA z0 S S' := by
  have h2 := h.2.1
  have h9 := h.2.2.2.2.2.2.1
  have hk : k < K0 := not_end hK h.1 (by
    rcases hv with ⟨q, -⟩ | ⟨u, u7, q, -⟩
    · rw [q]; decide
    · rw [q]
      intro z
      have := (nI_eq (b := 28) (by omega) (by omega)).mp z
      omega)
  obtain ⟨S1, e1, e2, e3, e4⟩ := aI_emit h z9 v
  obtain ⟨a1, a2⟩ := aI_adv e3 hk
  refine ⟨_, fun K i hi => ?_, a1, fA_t e4 a2⟩
  have g7 : ¬ (7 : Int32) ≤ nI d := fun q => by
    have := (nI_leI (a := 7) (by omega) (by omega)).mp q
    omega
  have J178 : ∀ l1 : Int32, l1 ≠ 140 → X1_part_J178 (am_put S 6 8 (sC (sC (am_sub S 6) 0 (am_u (S 6) 9 (nI (z0 + C.length + 1)))) 7 (upd (S 13) (z0 + C.length) v))) l1 = some (false, sC S1 1 (am_u (S1 1) 6 (nI (k + 1)))) := fun l1 hl => by
    rw [put_6, ← e2]
    unfold X1_part_J178
    rw [adv_C hK e3.1 hk]
    dsimp only [Option.bind]
    rw [if_neg hl, put_1]
  have P : X1_part S = some (false, sC S1 1 (am_u (S1 1) 6 (nI (k + 1)))) := by
    unfold X1_part X1_part_J35
    rw [sort_C hK h.1, num_C hK h.1, h9]
    rcases hv with ⟨q1, q2, q3⟩ | ⟨u, u7, q1, q2, q3⟩
    · rw [q1, q2, if_pos rfl, if_neg g7, if_neg q3, if_pos rfl, e1]
      dsimp only [Option.bind]
      exact J178 27 (by decide)
    · have ne : ∀ z : Nat, z < 1000 → 11 + u ≠ z → ¬ nI (11 + u) = nI z := fun z hz q y => q ((nI_eq (by omega) (by omega)).mp y)
      have s1 : -1 - (nI (11 + u) - 11) = v := by
        rw [show nI (11 + u) - 11 = nI u from nI_asub 11 u, q3]
      rw [q1, q2, if_neg (show ¬ nI (11 + u) = (27 : Int32) from ne 27 (by omega) (by omega)), if_neg (show ¬ nI (11 + u) = (140 : Int32) from ne 140 (by omega) (by omega)), if_pos (show nI (11 + u) ≤ (26 : Int32) from (nI_leI (b := 26) (by omega) (by omega)).mpr (by omega)), if_neg g7, if_neg (show ¬ (0 : Int32) = -1 by decide), if_neg (show ¬ nI (11 + u) = (27 : Int32) from ne 27 (by omega) (by omega)), if_neg (show ¬ nI (11 + u) = (140 : Int32) from ne 140 (by omega) (by omega)), if_neg (show ¬ nI (11 + u) < (11 : Int32) from fun y => by have := (nI_ltN (b := 11) (by omega) (by omega)).mp y; omega), if_neg (show ¬ (17 : Int32) < nI (11 + u) from fun y => by have := (nI_ltN (a := 17) (by omega) (by omega)).mp y; omega), s1, e1]
      dsimp only [Option.bind]
      exact J178 _ (show nI (11 + u) ≠ (140 : Int32) from ne 140 (by omega) (by omega))
  simp only [X1_ask_L51, X1_ask_B51, X1_ask_J134]
  rw [if_neg (show ¬ (700 : Int32) < nI i from fun y => by have := (nI_ltN (a := 700) (by omega) (by omega)).mp y; omega), if_pos h2, if_neg (show ¬ (1 : Int32) = 0 by decide), P, nI_1]
  rfl
end CLS
