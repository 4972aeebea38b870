/-! AN EXPR IS READ: left side, joint, right side are fine together -/
/-- as okO, with how far and the compare bits told; no joint of rank s or above follows -/
def okT (n : Nat) (b : Nat → Int32) (A K0 z0 q0 : Nat) (S : am_M) (k : Nat) (C J : List Int32) (d w : Nat) (Q : List Int32) (i r s h : Nat) (R R' : am_M) (t w' : Nat) : Prop := ∃ (S' : am_M) (C1 P : List Int32), (∀ K, X1_ask_L51 n (K + t) S 1 (nI i) = X1_ask_L51 n K S' 0 (nI (i + t))) ∧ aI b A K0 z0 (k + t) (C ++ C1) (P ++ J) d w' S' ∧ fA z0 S S' ∧ rI b A q0 (k + t) (Q ++ encL (C1 ++ P)) R' ∧ fE q0 R R' ∧ (∀ x ∈ P, ¬ X1_rankOf x < nI r ∧ x ≠ 0) ∧ P.length + r ≤ 3 ∧ WF h (C1 ++ P) ∧ (∀ x ∈ C1 ++ P, okI x) ∧ z0 + (C ++ C1).length + P.length + pnd J + 1 ≤ k + t ∧ 2 * (q0 + (Q ++ encL (C1 ++ P)).length + pnd J) + 2 ≤ 3 * (k + t) ∧ stp s (SK b A (tkB b A (k + t))) (w'.testBit d) ∧ ∀ e, e < 8 → (e < d ∨ (e = d ∧ 1 ≤ r)) → w'.testBit e = w.testBit e
section POSTB
variable {n : Nat} {b : Nat → Int32} {A K0 z0 q0 k : Nat} {S R : am_M}
theorem join_post (hK : KB b A K0) {C J Q C1 P1 C2 P2 : List Int32} {d w w1 w3 i r s h t1 t2 o : Nat} {S1 S2 S3 R1 R2 R3 : am_M} (o1 : 1 ≤ o) (o6 : o ≤ 6) (hd : d < 8) (hr3 : r ≤ 2) (hh : h ≤ 3 * d + r) (hrk : ¬ X1_rankOf (-9 - nI o) < nI r) (hrs : nI r ≤ nI (r + 1)) (f1 : ∀ K, X1_ask_L51 n (K + t1) S 1 (nI i) = X1_ask_L51 n K S1 0 (nI (i + t1))) (f2 : fA z0 S S1) (f3 : fE q0 R R1) (f4 : WF h (C1 ++ P1)) (f5 : ∀ x ∈ C1 ++ P1, okI x) (f6 : ∀ e, e < 8 → (e < d ∨ (e = d ∧ 1 ≤ r)) → w1.testBit e = w.testBit e)
    (g1 : ∀ K, X1_ask_L51 n (K + 1) S1 0 (nI (i + t1)) = X1_ask_L51 n K S2 1 (nI (i + t1 + 1))) (g2 : fA z0 S1 S2) (g3 : fE q0 R1 R2)
    (h1 : ∀ K, X1_ask_L51 n (K + t2) S2 1 (nI (i + t1 + 1)) = X1_ask_L51 n K S3 0 (nI (i + t1 + 1 + t2))) (h2 : aI b A K0 z0 (k + t1 + 1 + t2) ((C ++ C1) ++ P1 ++ C2) (P2 ++ (-9 - nI o) :: J) d w3 S3) (h3 : fA z0 S2 S3) (h4 : rI b A q0 (k + t1 + 1 + t2) ((Q ++ encL (C1 ++ P1)) ++ encL (C2 ++ P2)) R3) (h5 : fE q0 R2 R3) (h6 : ∀ x ∈ P2, ¬ X1_rankOf x < nI (r + 1) ∧ x ≠ 0) (h7 : P2.length + (r + 1) ≤ 3) (h8 : WF (h + 1) (C2 ++ P2)) (h9 : ∀ x ∈ C2 ++ P2, okI x) (h10 : z0 + ((C ++ C1) ++ P1 ++ C2).length + P2.length + (1 + pnd J) + 1 ≤ k + t1 + 1 + t2) (h11 : 2 * (q0 + ((Q ++ encL (C1 ++ P1)) ++ encL (C2 ++ P2)).length + (1 + pnd J)) + 2 ≤ 3 * (k + t1 + 1 + t2)) (h12 : stp s (SK b A (tkB b A (k + t1 + 1 + t2))) (w3.testBit d)) (h13 : ∀ e, e < 8 → (e < d ∨ (e = d ∧ 1 ≤ r)) → w3.testBit e = w1.testBit e) :
    ∃ R4, X8_emit R3 (nI o) = some R4 ∧ okT n b A K0 z0 q0 S k C J d w Q i r s h R R4 (t1 + 1 + t2) w3 := by
  have A7 := hK.1
  have K0A := hK.2.2.1
  have kK := h2.1.2.2.1
  obtain ⟨R4, e1, e2, e3⟩ := emit_R h4 (by omega) (nI o)
  have j0 : ∀ o, o < 7 → 1 ≤ o → (-9 - nI o : Int32) ≠ 0 := by decide
  have eq1 : (Q ++ encL (C1 ++ P1)) ++ encL (C2 ++ P2) ++ [nI o] = Q ++ encL ((C1 ++ P1 ++ C2) ++ (P2 ++ [-9 - nI o])) := by
    rw [← encI_j o (by omega) o1]
    have : encL [-9 - nI o] = encI (-9 - nI o) := by
      show encI (-9 - nI o) ++ [] = _
      rw [List.append_nil]
    rw [← this, encL_ap (C1 ++ P1 ++ C2), encL_ap (C1 ++ P1) C2, encL_ap P2, encL_ap C2 P2]
    simp only [List.append_assoc]
  refine ⟨R4, e1, S3, C1 ++ P1 ++ C2, P2 ++ [-9 - nI o], fun K => ?_, ?_, fA_t f2 (fA_t g2 h3), ?_, fE_t f3 (fE_t g3 (fE_t h5 e3)), fun x hx => ?_, ?_, ?_, fun x hx => ?_, ?_, ?_, ?_, fun e q1 q2 => (h13 e q1 q2).trans (f6 e q1 q2)⟩
  · rw [show K + (t1 + 1 + t2) = (K + t2 + 1) + t1 by omega, f1, g1, h1, show i + (t1 + 1 + t2) = i + t1 + 1 + t2 by omega]
  · have : (P2 ++ [-9 - nI o]) ++ J = P2 ++ (-9 - nI o) :: J := by rw [List.append_assoc]; rfl
    rw [this, show k + (t1 + 1 + t2) = k + t1 + 1 + t2 by omega, show C ++ (C1 ++ P1 ++ C2) = (C ++ C1) ++ P1 ++ C2 by simp only [List.append_assoc]]
    exact h2
  · rw [← eq1, show k + (t1 + 1 + t2) = k + t1 + 1 + t2 by omega]
    exact e2
  · rcases List.mem_append.mp hx with q | q
    · exact ⟨fun z => (h6 x q).1 (Int32.lt_of_lt_of_le z hrs), (h6 x q).2⟩
    · rw [List.mem_singleton.mp q]
      exact ⟨hrk, j0 o (by omega) o1⟩
  · rw [List.length_append]
    show P2.length + 1 + r ≤ 3
    omega
  · rw [show (C1 ++ P1 ++ C2) ++ (P2 ++ [-9 - nI o]) = (C1 ++ P1) ++ ((C2 ++ P2) ++ [-9 - nI o]) by simp only [List.append_assoc]]
    exact WF_j o1 o6 f4 h8 (by omega)
  · rw [show (C1 ++ P1 ++ C2) ++ (P2 ++ [-9 - nI o]) = (C1 ++ P1) ++ ((C2 ++ P2) ++ [-9 - nI o]) by simp only [List.append_assoc]] at hx
    rcases List.mem_append.mp hx with q | q
    · exact f5 x q
    · rcases List.mem_append.mp q with y | y
      · exact h9 x y
      · rw [List.mem_singleton.mp y]
        exact Or.inr (Or.inr ⟨o, o1, o6, rfl⟩)
  · rw [show C ++ (C1 ++ P1 ++ C2) = (C ++ C1) ++ P1 ++ C2 by simp only [List.append_assoc], List.length_append (as := P2)]
    show z0 + ((C ++ C1) ++ P1 ++ C2).length + (P2.length + 1) + pnd J + 1 ≤ _
    omega
  · rw [← eq1, List.length_append (bs := [nI o])]
    show 2 * (q0 + (((Q ++ encL (C1 ++ P1)) ++ encL (C2 ++ P2)).length + 1) + pnd J) + 2 ≤ _
    omega
  · rw [show k + (t1 + 1 + t2) = k + t1 + 1 + t2 by omega]
    exact h12
end POSTB
