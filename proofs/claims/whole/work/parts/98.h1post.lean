/-! AN EXPR IS READ: left side, joint, right side -/
section POST
variable {n : Nat} {b : Nat → Int32} {A K0 z0 q0 k : Nat} {S R : am_M}
theorem encL_ap : ∀ X Y : List Int32, encL (X ++ Y) = encL X ++ encL Y := by
  intro X
  induction X with
  | nil => intro Y; rfl
  | cons x X ih =>
    intro Y
    show encI x ++ encL (X ++ Y) = (encI x ++ encL X) ++ encL Y
    rw [ih, List.append_assoc]
theorem encI_j : ∀ o, o < 7 → 1 ≤ o → encI (-9 - nI o) = [nI o] := by decide
theorem WF_j {h : Nat} {o : Nat} (h1 : 1 ≤ o) (h2 : o ≤ 6) {X Y : List Int32} (hx : WF h X) (hy : WF (h + 1) Y) (hh : h + 2 ≤ 40) : WF h (X ++ (Y ++ [-9 - nI o])) := by
  intro rest hr
  rw [List.append_assoc, List.append_assoc]
  refine hx _ (hy _ ?_)
  have e : ∀ o, o < 7 → 1 ≤ o → ¬ (-7 : Int32) ≤ -9 - nI o ∧ ¬ (-9 - nI o : Int32) = -20 := by decide
  obtain ⟨e1, e2⟩ := e o (by omega) h1
  show wfL ((-9 - nI o) :: rest) (h + 1 + 1)
  simp only [wfL]
  rw [if_neg e1]
  exact ⟨e2, by omega, by omega, by rw [show h + 1 + 1 - 1 = h + 1 by omega]; exact hr⟩
end POST
