/-! HANDS: SendHall's rows (Scene.rows, 13 a HAND) against the reference's (now, 8 a HAND) -/
theorem X2_get_eq {σ : am_M} {h f : Nat} (hh : h < 8) (hf : f < 13) : X2_get σ (nI h) (nI f) = σ 1 (13 * h + f) := by
  unfold X2_get
  rw [show nI h * 13 = nI (h * 13) from pk_mul h 13, nI_add, if_neg (pu_nlt0 (by omega)), if_neg (by rw [show Int32.ofNat 104 = nI 104 from rfl, pu_le (by omega) (by omega)]; omega), nI_clamp (by omega), Nat.mul_comm]
theorem X2_set_eq {σ : am_M} {h f : Nat} {v : Int32} (hh : h < 8) (hf : f < 13) : X2_set σ (nI h) (nI f) v = some (sC σ 1 (upd (σ 1) (13 * h + f) v)) := by
  unfold X2_set
  rw [show nI h * 13 = nI (h * 13) from pk_mul h 13, nI_add, if_neg (pu_nlt0 (by omega)), if_neg (by rw [show Int32.ofNat 104 = nI 104 from rfl, pu_le (by omega) (by omega)]; omega), nI_clamp (by omega), Nat.mul_comm]
theorem X8_own_eq {σ : am_M} {h f : Nat} (hh : h < 8) (hf : f < 8) : X8_own σ (nI h) (nI f) = some (σ 15 (8 * h + f)) := by
  unfold X8_own
  rw [show (8 : Int32) * nI h = nI (8 * h) from pk_mul 8 h, nI_add, if_neg (pu_g (n := 1985) (by omega) (by omega)), nI_clamp (by omega)]
theorem X8_put_eq {σ : am_M} {h f : Nat} {v : Int32} (hh : h < 8) (hf : f < 8) : X8_put σ (nI h) (nI f) v = some (sC σ 15 (upd (σ 15) (8 * h + f) v)) := by
  unfold X8_put
  rw [show (8 : Int32) * nI h = nI (8 * h) from pk_mul 8 h, nI_add, if_neg (pu_g (n := 1985) (by omega) (by omega)), nI_clamp (by omega)]
theorem X2_g0 {σ : am_M} {h : Nat} (hh : h < 8) : X2_get σ (nI h) 0 = σ 1 (13 * h + 0) := X2_get_eq (f := 0) hh (by omega)
theorem X2_s0 {σ : am_M} {h : Nat} {v : Int32} (hh : h < 8) : X2_set σ (nI h) 0 v = some (sC σ 1 (upd (σ 1) (13 * h + 0) v)) := X2_set_eq (f := 0) hh (by omega)
theorem X2_g1 {σ : am_M} {h : Nat} (hh : h < 8) : X2_get σ (nI h) 1 = σ 1 (13 * h + 1) := X2_get_eq (f := 1) hh (by omega)
theorem X2_s1 {σ : am_M} {h : Nat} {v : Int32} (hh : h < 8) : X2_set σ (nI h) 1 v = some (sC σ 1 (upd (σ 1) (13 * h + 1) v)) := X2_set_eq (f := 1) hh (by omega)
theorem X2_g2 {σ : am_M} {h : Nat} (hh : h < 8) : X2_get σ (nI h) 2 = σ 1 (13 * h + 2) := X2_get_eq (f := 2) hh (by omega)
theorem X2_s2 {σ : am_M} {h : Nat} {v : Int32} (hh : h < 8) : X2_set σ (nI h) 2 v = some (sC σ 1 (upd (σ 1) (13 * h + 2) v)) := X2_set_eq (f := 2) hh (by omega)
theorem X2_g3 {σ : am_M} {h : Nat} (hh : h < 8) : X2_get σ (nI h) 3 = σ 1 (13 * h + 3) := X2_get_eq (f := 3) hh (by omega)
theorem X2_s3 {σ : am_M} {h : Nat} {v : Int32} (hh : h < 8) : X2_set σ (nI h) 3 v = some (sC σ 1 (upd (σ 1) (13 * h + 3) v)) := X2_set_eq (f := 3) hh (by omega)
theorem X2_g4 {σ : am_M} {h : Nat} (hh : h < 8) : X2_get σ (nI h) 4 = σ 1 (13 * h + 4) := X2_get_eq (f := 4) hh (by omega)
theorem X2_s4 {σ : am_M} {h : Nat} {v : Int32} (hh : h < 8) : X2_set σ (nI h) 4 v = some (sC σ 1 (upd (σ 1) (13 * h + 4) v)) := X2_set_eq (f := 4) hh (by omega)
theorem X2_g5 {σ : am_M} {h : Nat} (hh : h < 8) : X2_get σ (nI h) 5 = σ 1 (13 * h + 5) := X2_get_eq (f := 5) hh (by omega)
theorem X2_s5 {σ : am_M} {h : Nat} {v : Int32} (hh : h < 8) : X2_set σ (nI h) 5 v = some (sC σ 1 (upd (σ 1) (13 * h + 5) v)) := X2_set_eq (f := 5) hh (by omega)
theorem X2_g6 {σ : am_M} {h : Nat} (hh : h < 8) : X2_get σ (nI h) 6 = σ 1 (13 * h + 6) := X2_get_eq (f := 6) hh (by omega)
theorem X2_s6 {σ : am_M} {h : Nat} {v : Int32} (hh : h < 8) : X2_set σ (nI h) 6 v = some (sC σ 1 (upd (σ 1) (13 * h + 6) v)) := X2_set_eq (f := 6) hh (by omega)
theorem X2_g7 {σ : am_M} {h : Nat} (hh : h < 8) : X2_get σ (nI h) 7 = σ 1 (13 * h + 7) := X2_get_eq (f := 7) hh (by omega)
theorem X2_s7 {σ : am_M} {h : Nat} {v : Int32} (hh : h < 8) : X2_set σ (nI h) 7 v = some (sC σ 1 (upd (σ 1) (13 * h + 7) v)) := X2_set_eq (f := 7) hh (by omega)
theorem X2_g8 {σ : am_M} {h : Nat} (hh : h < 8) : X2_get σ (nI h) 8 = σ 1 (13 * h + 8) := X2_get_eq (f := 8) hh (by omega)
theorem X2_s8 {σ : am_M} {h : Nat} {v : Int32} (hh : h < 8) : X2_set σ (nI h) 8 v = some (sC σ 1 (upd (σ 1) (13 * h + 8) v)) := X2_set_eq (f := 8) hh (by omega)
theorem X2_g9 {σ : am_M} {h : Nat} (hh : h < 8) : X2_get σ (nI h) 9 = σ 1 (13 * h + 9) := X2_get_eq (f := 9) hh (by omega)
theorem X2_s9 {σ : am_M} {h : Nat} {v : Int32} (hh : h < 8) : X2_set σ (nI h) 9 v = some (sC σ 1 (upd (σ 1) (13 * h + 9) v)) := X2_set_eq (f := 9) hh (by omega)
theorem X2_g10 {σ : am_M} {h : Nat} (hh : h < 8) : X2_get σ (nI h) 10 = σ 1 (13 * h + 10) := X2_get_eq (f := 10) hh (by omega)
theorem X2_s10 {σ : am_M} {h : Nat} {v : Int32} (hh : h < 8) : X2_set σ (nI h) 10 v = some (sC σ 1 (upd (σ 1) (13 * h + 10) v)) := X2_set_eq (f := 10) hh (by omega)
theorem X2_g11 {σ : am_M} {h : Nat} (hh : h < 8) : X2_get σ (nI h) 11 = σ 1 (13 * h + 11) := X2_get_eq (f := 11) hh (by omega)
theorem X2_s11 {σ : am_M} {h : Nat} {v : Int32} (hh : h < 8) : X2_set σ (nI h) 11 v = some (sC σ 1 (upd (σ 1) (13 * h + 11) v)) := X2_set_eq (f := 11) hh (by omega)
theorem X2_g12 {σ : am_M} {h : Nat} (hh : h < 8) : X2_get σ (nI h) 12 = σ 1 (13 * h + 12) := X2_get_eq (f := 12) hh (by omega)
theorem X2_s12 {σ : am_M} {h : Nat} {v : Int32} (hh : h < 8) : X2_set σ (nI h) 12 v = some (sC σ 1 (upd (σ 1) (13 * h + 12) v)) := X2_set_eq (f := 12) hh (by omega)
theorem X8_o0 {σ : am_M} {h : Nat} (hh : h < 8) : X8_own σ (nI h) 0 = some (σ 15 (8 * h + 0)) := X8_own_eq (f := 0) hh (by omega)
theorem X8_p0 {σ : am_M} {h : Nat} {v : Int32} (hh : h < 8) : X8_put σ (nI h) 0 v = some (sC σ 15 (upd (σ 15) (8 * h + 0) v)) := X8_put_eq (f := 0) hh (by omega)
theorem X8_o1 {σ : am_M} {h : Nat} (hh : h < 8) : X8_own σ (nI h) 1 = some (σ 15 (8 * h + 1)) := X8_own_eq (f := 1) hh (by omega)
theorem X8_p1 {σ : am_M} {h : Nat} {v : Int32} (hh : h < 8) : X8_put σ (nI h) 1 v = some (sC σ 15 (upd (σ 15) (8 * h + 1) v)) := X8_put_eq (f := 1) hh (by omega)
theorem X8_o2 {σ : am_M} {h : Nat} (hh : h < 8) : X8_own σ (nI h) 2 = some (σ 15 (8 * h + 2)) := X8_own_eq (f := 2) hh (by omega)
theorem X8_p2 {σ : am_M} {h : Nat} {v : Int32} (hh : h < 8) : X8_put σ (nI h) 2 v = some (sC σ 15 (upd (σ 15) (8 * h + 2) v)) := X8_put_eq (f := 2) hh (by omega)
theorem X8_o3 {σ : am_M} {h : Nat} (hh : h < 8) : X8_own σ (nI h) 3 = some (σ 15 (8 * h + 3)) := X8_own_eq (f := 3) hh (by omega)
theorem X8_p3 {σ : am_M} {h : Nat} {v : Int32} (hh : h < 8) : X8_put σ (nI h) 3 v = some (sC σ 15 (upd (σ 15) (8 * h + 3) v)) := X8_put_eq (f := 3) hh (by omega)
theorem X8_o4 {σ : am_M} {h : Nat} (hh : h < 8) : X8_own σ (nI h) 4 = some (σ 15 (8 * h + 4)) := X8_own_eq (f := 4) hh (by omega)
theorem X8_p4 {σ : am_M} {h : Nat} {v : Int32} (hh : h < 8) : X8_put σ (nI h) 4 v = some (sC σ 15 (upd (σ 15) (8 * h + 4) v)) := X8_put_eq (f := 4) hh (by omega)
theorem X8_o5 {σ : am_M} {h : Nat} (hh : h < 8) : X8_own σ (nI h) 5 = some (σ 15 (8 * h + 5)) := X8_own_eq (f := 5) hh (by omega)
theorem X8_p5 {σ : am_M} {h : Nat} {v : Int32} (hh : h < 8) : X8_put σ (nI h) 5 v = some (sC σ 15 (upd (σ 15) (8 * h + 5) v)) := X8_put_eq (f := 5) hh (by omega)
theorem X8_o6 {σ : am_M} {h : Nat} (hh : h < 8) : X8_own σ (nI h) 6 = some (σ 15 (8 * h + 6)) := X8_own_eq (f := 6) hh (by omega)
theorem X8_p6 {σ : am_M} {h : Nat} {v : Int32} (hh : h < 8) : X8_put σ (nI h) 6 v = some (sC σ 15 (upd (σ 15) (8 * h + 6) v)) := X8_put_eq (f := 6) hh (by omega)
theorem X8_o7 {σ : am_M} {h : Nat} (hh : h < 8) : X8_own σ (nI h) 7 = some (σ 15 (8 * h + 7)) := X8_own_eq (f := 7) hh (by omega)
theorem X8_p7 {σ : am_M} {h : Nat} {v : Int32} (hh : h < 8) : X8_put σ (nI h) 7 v = some (sC σ 15 (upd (σ 15) (8 * h + 7) v)) := X8_put_eq (f := 7) hh (by omega)
/-- a HAND stands alike in both: S: the class's contents of a Scene's world, σ: the reference's -/
def rHd (S σ : am_M) (n h : Nat) : Prop := S 1 (13 * h + 0) = σ 15 (8 * h + 0) ∧ S 1 (13 * h + 1) = σ 15 (8 * h + 1) ∧ (∀ v, v < 4 → S 1 (13 * h + 2 + v) = σ 15 (8 * h + 2 + v)) ∧ S 1 (13 * h + 6) = nI h ∧ S 1 (13 * h + 7) = nI n ∧ S 1 (13 * h + 8) = σ 15 (8 * h + 6) ∧ S 1 (13 * h + 9) = σ 15 (8 * h + 7)
theorem X2_isHand_eq {S : am_M} {n h : Nat} (hn : S 0 1 = nI n) (hn8 : n ≤ 8) (hh : h < 2 ^ 31) : X2_isHand S (nI h) = decide (h < n) := by
  unfold X2_isHand
  rw [if_neg (pu_nlt0 hh), hn]
  by_cases hc : h < n
  · rw [if_neg (show ¬ nI n ≤ nI h by rw [pu_le (by omega) hh]; omega), decide_eq_true hc]
  · rw [if_pos (show nI n ≤ nI h by rw [pu_le (by omega) hh]; omega), decide_eq_false hc]
theorem X2_hasEnded_eq {S : am_M} {h : Nat} (hh : h < 8) : X2_hasEnded S (nI h) = decide (S 1 (13 * h + 0) = -1) := by
  unfold X2_hasEnded
  rw [X2_g0 hh]
  by_cases hc : S 1 (13 * h + 0) = -1
  · rw [if_pos hc, decide_eq_true hc]
  · rw [if_neg hc, decide_eq_false hc]
