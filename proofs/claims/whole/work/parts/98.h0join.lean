/-! AN EXPR IS READ: a joint, and what comes after it -/
section JOIN
variable {n : Nat} {b : Nat → Int32} {A K0 z0 q0 : Nat}
theorem pnd_1 {j : Int32} {J : List Int32} (h : j ≠ 0) : pnd (j :: J) = 1 + pnd J := by
  show (if j = 0 then 0 else 1) + pnd J = 1 + pnd J
  rw [if_neg h]
theorem join_pre (hn : 2200 < n) (hK : KB b A K0) {k1 d w i r h s : Nat} {S1 R1 : am_M} {C1 P J Q1 : List Int32} {j : Int32} (hd : d < 8) (y2 : aI b A K0 z0 k1 C1 (P ++ J) d w S1) (y4 : rI b A q0 k1 Q1 R1) (hP : ∀ x ∈ P, ¬ X1_rankOf x < nI r ∧ x ≠ 0) (hPl : P.length + r ≤ 3) (hJ : ∀ x, J.head? = some x → X1_rankOf x < nI r) (hJl : J.length ≤ 4 * d + r) (hb1 : z0 + C1.length + P.length + pnd J + 1 ≤ k1) (hb2 : 2 * (q0 + Q1.length + pnd J) + 2 ≤ 3 * k1) (hs : SK b A (tkB b A k1) = nI s) (s28 : s ≠ 28) (s356 : s < 356) (hj : X1_jointOf S1 (nI s) = j) (hj0 : j ≠ 0) (hr : X1_rankOf j = nI r) (hi : i ≤ k1) (hh : h ≤ 3 * d + r) : ∃ S2 R2, (∀ K, X1_ask_L51 n (K + 1) S1 0 (nI i) = X1_ask_L51 n K S2 1 (nI (i + 1))) ∧ fA z0 S1 S2 ∧ X8_stepOn n R1 = some R2 ∧ fE q0 R1 R2 ∧ preO b A K0 z0 q0 S2 (k1 + 1) (C1 ++ P) (j :: J) d (if X1_rankOf j = 0 then setB w d else w) Q1 (i + 1) (r + 1) (h + 1) R2 := by
  have kK := y2.1.2.2.1
  have A7 := hK.1
  have K0A := hK.2.2.1
  have hl : (P ++ J).length = P.length + J.length := List.length_append
  have hk : k1 < K0 := not_end hK y2.1 (by
    rw [hs]
    exact fun z => s28 ((nI_eq (b := 28) (by omega) (by omega)).mp z))
  obtain ⟨S2, c1, c2, c3⟩ := push_C n hn hK y2 hk (fun x hx => by rw [hr]; exact hJ x hx) (fun x hx => by rw [hr]; exact (hP x hx).1) (by omega) (by omega)
  obtain ⟨R2, f1, f2, f3⟩ := step_R n hn hK y4 hk
  refine ⟨S2, R2, fun K => ?_, c3, f1, f3, c2, f2, by omega, fun x hx => ?_, ?_, by omega, ?_, ?_⟩
  · simp only [X1_ask_L51, X1_ask_B51, X1_ask_J134]
    rw [if_neg (show ¬ (700 : Int32) < nI i from fun y => by have := (nI_ltN (a := 700) (by omega) (by omega)).mp y; omega), if_pos y2.2.1, if_pos True.intro, sort_C hK y2.1, hs, hj, if_neg hj0, c1, nI_1]
    rfl
  · rw [← Option.some.inj hx, hr]
    exact (nI_ltN (by omega) (by omega)).mpr (by omega)
  · show J.length + 1 ≤ _
    omega
  · rw [pnd_1 hj0, List.length_append]
    omega
  · rw [pnd_1 hj0]
    omega
end JOIN
