/-! WHAT A MOVE LEAVES ALONE -/
def frm (S T : am_M) : Prop := ∀ c, 11 ≤ c → T c = S c
theorem frm_t {a b c : am_M} (h : frm a b) (k : frm b c) : frm a c := fun x hx => (k x hx).trans (h x hx)
theorem bnd {α β : Type} {x : Option α} {f : α → Option β} {y : β} (h : x.bind f = some y) : ∃ a, x = some a ∧ f a = some y := by
  cases x with
  | none => exact absurd h (fun q => nomatch q)
  | some a => exact ⟨a, rfl, h⟩
theorem frm_tick {S T : am_M} {a b : Int32} (h : X2_tick S a b = some T) : frm S T := by
  intro c hc
  rw [← Option.some.inj h]
  exact sC_ne (by omega)
theorem frm_set {S T : am_M} {a f v : Int32} (h : X2_set S a f v = some T) : frm S T := by
  unfold X2_set at h
  split at h
  · rw [← Option.some.inj h]; exact fun _ _ => rfl
  · split at h
    · rw [← Option.some.inj h]; exact fun _ _ => rfl
    · intro c hc
      rw [← Option.some.inj h]
      exact sC_ne (by omega)
theorem frm_done {S T : am_M} {a : Int32} (h : X2_hasDone S a = some T) : frm S T := by
  intro c hc
  rw [← Option.some.inj h]
  exact sC_ne (by omega)
theorem frm_raise {S T : am_M} {a b : Int32} (h : X2_raise S a b = some T) : frm S T := by
  unfold X2_raise at h
  split at h
  · rw [← Option.some.inj h]; exact fun _ _ => rfl
  · obtain ⟨q, h1, h2⟩ := bnd h
    refine frm_t (frm_tick h1) (fun c hc => ?_)
    rw [← Option.some.inj h2]
    exact sC_ne (by omega)
theorem frm_stop {S T : am_M} {a : Int32} (h : X2_stop S a = some T) : frm S T := by
  unfold X2_stop at h
  obtain ⟨q1, h1, h⟩ := bnd h
  obtain ⟨q2, h2, h⟩ := bnd h
  obtain ⟨q3, h3, h⟩ := bnd h
  obtain ⟨q4, h4, h⟩ := bnd h
  rw [← Option.some.inj h]
  exact frm_t (frm_set h1) (frm_t (frm_set h2) (frm_t (frm_set h3) (frm_set h4)))
theorem frm_rj {S T : am_M} {a b c d e : Int32} (h : X2_receive_J37 S a b c d e = some T) : frm S T := by
  unfold X2_receive_J37 at h
  obtain ⟨q1, h1, h⟩ := bnd h
  obtain ⟨q2, h2, h⟩ := bnd h
  refine frm_t (frm_set h1) (frm_t (frm_set h2) ?_)
  split at h
  · obtain ⟨q3, h3, h⟩ := bnd h
    rw [← Option.some.inj h]
    exact frm_done h3
  · obtain ⟨q3, h3, h⟩ := bnd h
    rw [← Option.some.inj h]
    exact frm_stop h3
theorem frm_0 {S : am_M} {f : Nat → Int32} : frm S (sC S 0 f) := fun c hc => sC_ne (by omega)
theorem frm_recv {S T : am_M} {a b c d : Int32} (h : X2_receive S a b c d = some T) : frm S T := by
  unfold X2_receive at h
  split at h
  · exact frm_t frm_0 (frm_rj h)
  · exact frm_rj h
theorem frm_p {S q : am_M} : frm S (am_put S 2 5 q) := fun c hc => am_put_ne (by omega)
theorem frm_tj {n : Nat} {S T : am_M} {a b c : Int32} (h : X2_take_J77 n S a b c = some T) : frm S T := by
  unfold X2_take_J77 at h
  obtain ⟨q1, h1, h⟩ := bnd h
  obtain ⟨q2, h2, h⟩ := bnd h
  rw [← Option.some.inj h]
  exact frm_t frm_p (frm_recv h2)
theorem frm_take {n : Nat} {S T : am_M} {a b : Int32} (h : X2_take n S a b = some T) : frm S T := by
  unfold X2_take at h
  obtain ⟨q1, h1, h⟩ := bnd h
  obtain ⟨q2, h2, h⟩ := bnd h
  obtain ⟨q3, h3, h⟩ := bnd h
  refine frm_t (frm_raise h2) (frm_t (frm_tick h3) ?_)
  split at h
  · exact frm_t (fun c hc => sC_ne (by omega)) (frm_tj h)
  · exact frm_tj h
theorem frm_lay {n : Nat} {S T : am_M} {a b : Int32} (h : X2_lay n S a b = some T) : frm S T := by
  unfold X2_lay at h
  obtain ⟨q1, h1, h⟩ := bnd h
  obtain ⟨q2, h2, h⟩ := bnd h
  obtain ⟨q3, h3, h⟩ := bnd h
  rw [← Option.some.inj h]
  exact frm_t (frm_tick h1) (frm_t frm_p (frm_done h3))
theorem frm_hand {S T : am_M} {a : Int32} (h : X2_handOver S a = some T) : frm S T := by
  unfold X2_handOver at h
  obtain ⟨q1, h1, h⟩ := bnd h
  obtain ⟨q2, h2, h⟩ := bnd h
  obtain ⟨q3, h3, h⟩ := bnd h
  obtain ⟨q4, h4, h⟩ := bnd h
  obtain ⟨q5, h5, h⟩ := bnd h
  obtain ⟨q6, h6, h⟩ := bnd h
  rw [← Option.some.inj h]
  exact frm_t (frm_raise h1) (frm_t (frm_raise h2) (frm_t (frm_tick h3) (frm_t (frm_tick h4) (frm_t (frm_recv h5) (frm_done h6)))))
theorem frm_g50 {n : Nat} : ∀ (K : Nat) {S T : am_M} {a b c d : Int32}, X2_goTogether_L50 n K S a b c d = some T → frm S T := by
  intro K
  induction K with
  | zero => intro S T a b c d h; exact absurd h (fun q => nomatch q)
  | succ K ih =>
    intro S T a b c d h
    simp only [X2_goTogether_L50, X2_goTogether_B50] at h
    split at h
    · rw [← Option.some.inj h]; exact fun _ _ => rfl
    · obtain ⟨q1, h1, h⟩ := bnd h
      obtain ⟨q2, h2, h⟩ := bnd h
      refine frm_t (frm_raise h1) (frm_t (frm_tick h2) ?_)
      split at h
      · obtain ⟨q3, h3, h⟩ := bnd h
        obtain ⟨q4, h4, h⟩ := bnd h
        exact frm_t (frm_set h3) (frm_t (frm_done h4) (ih h))
      · obtain ⟨q4, h4, h⟩ := bnd h
        exact frm_t (frm_done h4) (ih h)
theorem frm_g7 {n : Nat} : ∀ (K : Nat) {S T : am_M} {a b c d : Int32}, X2_goTogether_L7 n K S a b c d = some T → frm S T := by
  intro K
  induction K with
  | zero => intro S T a b c d h; exact absurd h (fun q => nomatch q)
  | succ K ih =>
    intro S T a b c d h
    simp only [X2_goTogether_L7, X2_goTogether_B7] at h
    split at h
    · exact frm_g50 n h
    · exact ih h
theorem frm_move {n : Nat} {S T : am_M} {a b : Int32} (h : X2_move n S a b = some T) : frm S T := by
  unfold X2_move at h
  refine frm_t (frm_0 (f := am_u (S 0) 12 (-1))) ?_
  split at h
  · obtain ⟨q1, h1, h⟩ := bnd h
    split at h
    · obtain ⟨q2, h2, h⟩ := bnd h
      rw [← Option.some.inj h]; exact frm_lay h2
    · obtain ⟨q2, h2, h⟩ := bnd h
      rw [← Option.some.inj h]; exact frm_hand h2
  · split at h
    · obtain ⟨q2, h2, h⟩ := bnd h
      rw [← Option.some.inj h]; exact frm_hand h2
    · split at h
      · obtain ⟨q2, h2, h⟩ := bnd h
        rw [← Option.some.inj h]; exact frm_lay h2
      · split at h
        · obtain ⟨q2, h2, h⟩ := bnd h
          rw [← Option.some.inj h]; exact frm_take h2
        · split at h
          · obtain ⟨q2, h2, h⟩ := bnd h
            rw [← Option.some.inj h]; exact frm_take h2
          · split at h
            · obtain ⟨q1, h1, h⟩ := bnd h
              obtain ⟨q2, h2, h⟩ := bnd h
              obtain ⟨q3, h3, h⟩ := bnd h
              rw [← Option.some.inj h]
              exact frm_t (frm_raise h1) (frm_t (frm_tick h2) (frm_done h3))
            · obtain ⟨q2, h2, h⟩ := bnd h
              rw [← Option.some.inj h]; exact frm_g7 n h2
theorem am_put_in {α : Type} {f g : Nat → α} {o len k : Nat} (h1 : o ≤ k) (h2 : k < o + len) : am_put f o len g k = g (k - o) := by
  unfold am_put
  rw [show Nat.ble o k = true from Nat.ble_eq.mpr h1]
  dsimp only
  rw [show Nat.ble (o + len) k = false from Bool.eq_false_iff.mpr (fun q => by have := Nat.ble_eq.mp q; omega)]
/-- a Scene put back and taken again -/
theorem sub_put {α : Type} {P S1 : Nat → α} (h : ∀ c, 19 ≤ c → S1 c = P (1 + c)) : am_sub (am_put P 1 19 S1) 1 = S1 := by
  funext c
  show am_put P 1 19 S1 (1 + c) = S1 c
  by_cases q : c < 19
  · rw [am_put_in (by omega) (by omega), show 1 + c - 1 = c by omega]
  · rw [am_put_ne (by omega), h c (by omega)]
theorem put_put {α : Type} {P S1 S2 : Nat → α} : am_put (am_put P 1 19 S1) 1 19 S2 = am_put P 1 19 S2 := by
  funext c
  by_cases q : 1 ≤ c ∧ c < 20
  · rw [am_put_in q.1 (by omega), am_put_in q.1 (by omega)]
  · rw [am_put_ne (by omega), am_put_ne (by omega), am_put_ne (by omega)]
