/-! WHERE STEPS LEAD to the reference: by rows of 'if's that stand further and further ahead -/
/-- from s, by the 'if's around it, to what y is -/
def rch (B : Nat → Int32) : Nat → Nat → Int32 → Prop
  | 0, s, y => B s = y
  | m + 1, s, y => B s = y ∨ ∃ c, c < s ∧ B s = -2 - nI c ∧ rch B m c y
def lowH (H : am_M) (N : Nat) : Prop := ∀ s, s < N → ∃ y, -2 < y ∧ rch (H 11) 5 s y
