/-! AN EXPR IS READ: what class and reference come to -/
def pnd : List Int32 → Nat
  | [] => 0
  | x :: r => (if x = 0 then 0 else 1) + pnd r
def WF (h : Nat) (L : List Int32) : Prop := ∀ rest, wfL rest (h + 1) → wfL (L ++ rest) h
/-- no joint of this rank or above follows -/
def stp (r : Nat) (sk : Int32) (bit : Bool) : Prop := (r ≤ 2 → sk ≠ 142 ∧ sk ≠ 147) ∧ (r ≤ 1 → sk ≠ 143 ∧ sk ≠ 145) ∧ (r = 0 → bit = false → sk ≠ 160 ∧ sk ≠ 161)
/-- fine: the class's loop has come to where a joint is wanted -/
def okO (n : Nat) (b : Nat → Int32) (A K0 z0 q0 : Nat) (S : am_M) (k : Nat) (C J : List Int32) (d w : Nat) (Q : List Int32) (i r h : Nat) (R R' : am_M) : Prop := ∃ (t : Nat) (S' : am_M) (C1 P : List Int32) (w' : Nat), (∀ K, X1_ask_L51 n (K + t) S 1 (nI i) = X1_ask_L51 n K S' 0 (nI (i + t))) ∧ aI b A K0 z0 (k + t) (C ++ C1) (P ++ J) d w' S' ∧ fA z0 S S' ∧ rI b A q0 (k + t) (Q ++ encL (C1 ++ P)) R' ∧ fE q0 R R' ∧ (∀ x ∈ P, ¬ X1_rankOf x < nI r ∧ x ≠ 0) ∧ P.length + r ≤ 3 ∧ WF h (C1 ++ P) ∧ (∀ x ∈ C1 ++ P, okI x) ∧ z0 + (C ++ C1).length + P.length + pnd J + 1 ≤ k + t ∧ 2 * (q0 + (Q ++ encL (C1 ++ P)).length + pnd J) + 2 ≤ 3 * (k + t) ∧ stp r (SK b A (tkB b A (k + t))) (w'.testBit d) ∧ ∀ e, e < 8 → (e < d ∨ (e = d ∧ 1 ≤ r)) → w'.testBit e = w.testBit e
/-- a FAULT, the same in both -/
def noO (n K0 q0 : Nat) (S : am_M) (k i : Nat) (l4 : Int32) (R R' : am_M) : Prop := ∃ (t : Nat) (S' : am_M) (κ π : Int32), (∀ K, X1_ask_L51 n (K + t) S l4 (nI i) = X1_ask_J152 n S') ∧ t + k ≤ K0 + 2 ∧ κ ≠ 0 ∧ S' 0 2 = κ ∧ S' 0 3 = π ∧ (∃ h, h < 2000 ∧ S' 0 8 = nI h) ∧ R' 0 18 = κ ∧ R' 0 19 = π ∧ fE q0 R R'
/-- what may be asked of the state before -/
def preO (b : Nat → Int32) (A K0 z0 q0 : Nat) (S : am_M) (k : Nat) (C J : List Int32) (d w : Nat) (Q : List Int32) (i r h : Nat) (R : am_M) : Prop := aI b A K0 z0 k C J d w S ∧ rI b A q0 k Q R ∧ i ≤ k ∧ (∀ x, J.head? = some x → X1_rankOf x < nI r) ∧ J.length ≤ 4 * d + r ∧ h ≤ 3 * d + r ∧ z0 + C.length + pnd J + 1 ≤ k ∧ 2 * (q0 + Q.length + pnd J) + 3 ≤ 3 * k
/-- a whole EXPR at depth d -/
def SpecE (n : Nat) (b : Nat → Int32) (A K0 d : Nat) : Prop := ∀ (z0 q0 : Nat) (S : am_M) (k : Nat) (C J : List Int32) (w : Nat) (Q : List Int32) (i h g : Nat) (R : am_M), preO b A K0 z0 q0 S k C J d w Q i 0 h R → w.testBit d = false → 9 ≤ g + d → ∃ R', X8_readExpressionR n g R (nI d) = some R' ∧ (okO n b A K0 z0 q0 S k C J d w Q i 0 h R R' ∨ noO n K0 q0 S k i 1 R R')
section SPEC
variable {n : Nat} {b : Nat → Int32} {A K0 k z0 q0 : Nat} {R S : am_M}
theorem loop_f {S1 : am_M} {bb : Bool} {i : Nat} (h2 : S 0 2 = 0) (hp : X1_part S = some (bb, S1)) (h1 : ¬ S1 0 2 = 0) (hi : i ≤ 700) (K : Nat) : X1_ask_L51 n (K + 2) S 1 (nI i) = X1_ask_J152 n S1 := by
  have e : X1_ask_L51 n (K + 2) S 1 (nI i) = X1_ask_L51 n (K + 1) S1 (b2i bb) (nI (i + 1)) := by
    rw [X1_ask_L51]
    simp only [X1_ask_B51, X1_ask_J134]
    rw [if_neg (show ¬ (700 : Int32) < nI i from fun y => by have := (nI_ltN (a := 700) (by omega) (by omega)).mp y; omega), if_pos h2, if_neg (show ¬ (1 : Int32) = 0 by decide), hp, nI_1]
    rfl
  rw [e]
  simp only [X1_ask_L51, X1_ask_B51]
  rw [if_neg h1, j140_f n h1]
  split <;> rfl
theorem partJ_f (hK : KB b A K0) (h : tkC b A K0 k S) (h2 : S 0 2 = 0) {a l1 : Int32} (ha : a ≠ 0) : ∃ bb S1, (X1_refuse S a).bind (fun q1 => X1_part_J178 q1 l1) = some (bb, S1) ∧ S1 0 2 = a ∧ S1 0 3 = nI (tkB b A k) ∧ S1 0 8 = S 0 8 := by
  rw [refuse_C hK h h2]
  dsimp only [Option.bind]
  obtain ⟨f, e⟩ := adv_any (S := sC S 0 (am_u (am_u (S 0) 2 a) 3 (nI (tkB b A k))))
  unfold X1_part_J178
  rw [e]
  dsimp only [Option.bind]
  rw [put_1]
  by_cases q : l1 = 140
  · rw [if_pos q]
    exact ⟨_, _, rfl, rfl, rfl, rfl⟩
  · rw [if_neg q]
    exact ⟨_, _, rfl, rfl, rfl, rfl⟩
/-- the class finds no part, or one that may not stand -/
theorem part_no (hK : KB b A K0) {C J : List Int32} {d w : Nat} (h : aI b A K0 z0 k C J d w S) {a : Int32} (ha : (a = 1 ∧ ∃ j, j < 356 ∧ 27 < j ∧ j ≠ 140 ∧ SK b A (tkB b A k) = nI j) ∨ (a = 2 ∧ (SK b A (tkB b A k) = 27 ∨ SK b A (tkB b A k) = 140 ∨ ∃ j, j ≤ 26 ∧ SK b A (tkB b A k) = nI j) ∧ (d = 7 ∨ NMT b A (tkB b A k) = -1)) ∨ (a = 3 ∧ d < 7 ∧ NMT b A (tkB b A k) = 0 ∧ ∃ j, j ≤ 26 ∧ (j < 11 ∨ 17 < j) ∧ SK b A (tkB b A k) = nI j)) : ∃ bb S1, X1_part S = some (bb, S1) ∧ S1 0 2 = a ∧ S1 0 3 = nI (tkB b A k) ∧ S1 0 8 = S 0 8 := by
  obtain ⟨h1, h2, h3, h4, h5, h6, h7, h8, h9, h10⟩ := h
  unfold X1_part
  rw [sort_C hK h1]
  have ne : ∀ j z : Nat, j < 1000 → z < 1000 → j ≠ z → ¬ nI j = nI z := fun j z hj hz q y => q ((nI_eq (by omega) (by omega)).mp y)
  have j55 : ∀ l1 : Int32, (d = 7 ∨ NMT b A (tkB b A k) = -1) → X1_part_J35 S l1 = (X1_refuse S 2).bind (fun q1 => X1_part_J178 q1 l1) := fun l1 q => by
    unfold X1_part_J35 X1_part_J55
    rw [num_C hK h1, h7]
    rcases q with q | q
    · rw [q, if_pos (show (7 : Int32) ≤ nI 7 from Int32.le_refl _)]
    · rw [q, if_pos (show (-1 : Int32) = -1 from rfl)]
      split <;> rfl
  rcases ha with ⟨rfl, j, j1, j2, j3, js⟩ | ⟨rfl, hs, hd⟩ | ⟨rfl, hd, hn0, j, j1, j2, js⟩
  · rw [js, if_neg (show ¬ nI j = (27 : Int32) from ne j 27 (by omega) (by omega) (by omega)), if_neg (show ¬ nI j = (140 : Int32) from ne j 140 (by omega) (by omega) (by omega)), if_neg (show ¬ nI j ≤ (26 : Int32) from fun q => by have := (nI_leI (b := 26) (by omega) (by omega)).mp q; omega)]
    exact partJ_f hK h1 h2 (by decide)
  · rcases hs with hs | hs | ⟨j, j1, js⟩
    · rw [hs, if_pos rfl, j55 27 hd]
      exact partJ_f hK h1 h2 (by decide)
    · rw [hs, if_neg (by decide), if_pos rfl, j55 140 hd]
      exact partJ_f hK h1 h2 (by decide)
    · rw [js, if_neg (show ¬ nI j = (27 : Int32) from ne j 27 (by omega) (by omega) (by omega)), if_neg (show ¬ nI j = (140 : Int32) from ne j 140 (by omega) (by omega) (by omega)), if_pos (show nI j ≤ (26 : Int32) from (nI_leI (b := 26) (by omega) (by omega)).mpr j1), j55 _ hd]
      exact partJ_f hK h1 h2 (by decide)
  · rw [js, if_neg (show ¬ nI j = (27 : Int32) from ne j 27 (by omega) (by omega) (by omega)), if_neg (show ¬ nI j = (140 : Int32) from ne j 140 (by omega) (by omega) (by omega)), if_pos (show nI j ≤ (26 : Int32) from (nI_leI (b := 26) (by omega) (by omega)).mpr j1)]
    unfold X1_part_J35 X1_part_J173
    rw [num_C hK h1, h7, hn0, if_neg (show ¬ (7 : Int32) ≤ nI d from fun q => by have := (nI_leI (a := 7) (by omega) (by omega)).mp q; omega), if_neg (show ¬ (0 : Int32) = -1 by decide), if_neg (show ¬ nI j = (27 : Int32) from ne j 27 (by omega) (by omega) (by omega)), if_neg (show ¬ nI j = (140 : Int32) from ne j 140 (by omega) (by omega) (by omega))]
    by_cases q : j < 11
    · rw [if_pos (show nI j < (11 : Int32) from (nI_ltN (b := 11) (by omega) (by omega)).mpr q)]
      exact partJ_f hK h1 h2 (by decide)
    · rw [if_neg (show ¬ nI j < (11 : Int32) from fun y => q ((nI_ltN (b := 11) (by omega) (by omega)).mp y)), if_pos (show (17 : Int32) < nI j from (nI_ltN (a := 17) (by omega) (by omega)).mpr (by omega))]
      exact partJ_f hK h1 h2 (by decide)
/-- so both stop with the same FAULT -/
theorem no_of (hK : KB b A K0) {C J : List Int32} {d w i : Nat} {a : Int32} {Q : List Int32} (h : aI b A K0 z0 k C J d w S) (hJ : J.length < 1000) (hr : rI b A q0 k Q R) (hi : i ≤ k) (ha0 : a ≠ 0) (hp : ∃ bb S1, X1_part S = some (bb, S1) ∧ S1 0 2 = a ∧ S1 0 3 = nI (tkB b A k) ∧ S1 0 8 = S 0 8) : noO n K0 q0 S k i 1 R (sC R 0 (am_u (am_u (R 0) 18 a) 19 (nI (tkB b A k)))) := by
  obtain ⟨bb, S1, p1, p2, p3, p4⟩ := hp
  have kK := h.1.2.2.1
  have A7 := hK.1
  have K0A := hK.2.2.1
  refine ⟨2, S1, a, nI (tkB b A k), fun K => loop_f h.2.1 p1 (by rw [p2]; exact ha0) (by omega) K, by omega, ha0, p2, p3, ⟨J.length, by omega, p4.trans h.2.2.2.2.1⟩, rfl, rfl, ⟨fun c q1 q2 => sC_ne q1, fun j hj => ?_, fun _ _ => rfl⟩⟩
  show am_u (am_u (R 0) 18 a) 19 (nI (tkB b A k)) j = _
  rw [am_u_ne (by omega), am_u_ne (by omega)]
theorem WF_1 {h : Nat} {x : Int32} (hh : h < 40) (hx : (∃ v : Nat, v ≤ 9999 ∧ x = nI v) ∨ ∃ v : Nat, v < 7 ∧ x = -1 - nI v) : WF h [x] := by
  intro rest hr
  have e : -7 ≤ x ∧ ¬ x = -20 := by
    rcases hx with ⟨v, v1, rfl⟩ | ⟨v, v1, rfl⟩
    · exact ⟨Int32.le_trans (show (-7 : Int32) ≤ 0 by decide) (Int32.not_lt.mp (nI_n0 (by omega))), fun q => nI_n0 (show v < 2147483640 by omega) (by rw [q]; decide)⟩
    · rcases (show v = 0 ∨ v = 1 ∨ v = 2 ∨ v = 3 ∨ v = 4 ∨ v = 5 ∨ v = 6 by omega) with rfl | rfl | rfl | rfl | rfl | rfl | rfl <;> exact ⟨by decide, by decide⟩
  show wfL (x :: rest) h
  simp only [wfL]
  rw [if_pos e.1]
  exact ⟨e.2, hh, hr⟩
end SPEC
