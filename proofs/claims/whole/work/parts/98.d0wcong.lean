/-! For whom a HAND waits: nothing but the Scene's cells count -/
section WC
variable {S S' : am_M}
theorem cg_get (e : ∀ c, c < 19 → S' c = S c) (a b : Int32) : X2_get S' a b = X2_get S a b := by
  unfold X2_get
  rw [e 1 (by omega)]
theorem cg_hand (e : ∀ c, c < 19 → S' c = S c) (a : Int32) : X2_isHand S' a = X2_isHand S a := by
  unfold X2_isHand
  rw [e 0 (by omega)]
theorem cg_kind (e : ∀ c, c < 19 → S' c = S c) (a : Int32) : X3_kindOf (am_sub S' 11) a = X3_kindOf (am_sub S 11) a := by
  unfold X3_kindOf
  rw [show (am_sub S' 11) 0 = (am_sub S 11) 0 from e 11 (by omega), show (am_sub S' 11) 1 = (am_sub S 11) 1 from e 12 (by omega)]
theorem cg_doing (e : ∀ c, c < 19 → S' c = S c) (a : Int32) : X2_doing S' a = X2_doing S a := by
  unfold X2_doing
  rw [cg_hand e, cg_get e, cg_get e, cg_kind e]
theorem cg_ended (e : ∀ c, c < 19 → S' c = S c) (a : Int32) : X2_hasEnded S' a = X2_hasEnded S a := by
  unfold X2_hasEnded
  rw [cg_get e]
theorem cg_unended (n : Nat) (e : ∀ c, c < 19 → S' c = S c) : ∀ (K : Nat) (a b : Int32), X2_unended_L4 n S' K a b = X2_unended_L4 n S K a b := by
  intro K
  induction K with
  | zero => intro a b; rfl
  | succ K ih =>
    intro a b
    simp only [X2_unended_L4, X2_unended_B4, X2_unended_J26]
    rw [e 0 (by omega), cg_ended e, ih, ih]
theorem cg_notDoing (n : Nat) (e : ∀ c, c < 19 → S' c = S c) : ∀ (K : Nat) (a b c : Int32), X2_notDoing_L4 n S' K a b c = X2_notDoing_L4 n S K a b c := by
  intro K
  induction K with
  | zero => intro a b c; rfl
  | succ K ih =>
    intro a b c
    simp only [X2_notDoing_L4, X2_notDoing_B4, X2_notDoing_J27]
    rw [e 0 (by omega), cg_doing e, ih, ih]
theorem cg_begun (n : Nat) (e : ∀ c, c < 19 → S' c = S c) : ∀ (K : Nat) (a b c : Int32), X6_begunBy_L4 n (am_sub S' 2) K a b c = X6_begunBy_L4 n (am_sub S 2) K a b c := by
  have e0 : (am_sub S' 2) 0 = (am_sub S 2) 0 := e 2 (by omega)
  have e1 : (am_sub S' 2) 1 = (am_sub S 2) 1 := e 3 (by omega)
  have p : ∀ x, X6_pairAt (am_sub S' 2) x = X6_pairAt (am_sub S 2) x := fun x => by
    unfold X6_pairAt
    rw [e1]
  have g : ∀ x, X6_begunAt (am_sub S' 2) x = X6_begunAt (am_sub S 2) x := fun x => by
    unfold X6_begunAt
    rw [e1]
  have q : ∀ x, X6_senderAt (am_sub S' 2) x = X6_senderAt (am_sub S 2) x := fun x => by
    unfold X6_senderAt
    rw [p]
  intro K
  induction K with
  | zero => intro a b c; rfl
  | succ K ih =>
    intro a b c
    simp only [X6_begunBy_L4, X6_begunBy_B4, X6_begunBy_J42]
    rw [e0, p, g, q, ih, ih]
theorem cg_waits (n : Nat) (e : ∀ c, c < 19 → S' c = S c) (x : Int32) : X2_waitsFor n S' x = X2_waitsFor n S x := by
  unfold X2_waitsFor X2_unended X6_begunBy X2_notDoing
  rw [cg_doing e, cg_get e, cg_unended n e, cg_begun n e, cg_notDoing n e]
end WC
