/-- the STEPS, to a depth of d -/
def X8_readStepsR (n : Nat) : Nat → am_M → Int32 → Int32 → Option (Int32 × am_M)
  | 0 => fun _ _ _ => none
  | d + 1 => fun σ a1 a2 => X8_readSteps n (X8_readStepsR n d) σ a1 a2
theorem c_X8_readStepsR (l : Launch) (n d : Nat) : ∀ (σ : am_M) (a1 a2 : Int32) (res : Int32 × am_M) (h : X8_readStepsR n d σ a1 a2 = some res), am_Con l yX8_readSteps cX8_readSteps 6 (some .int) (103 * d) [.ref 0, .int a1, .int a2] (wX8 σ) (fun (r : Option Value) (w : am_W) => r = (some (.int res.1)) ∧ w = (wX8 res.2)) := by
  have key : ∀ (d : Nat) (l : Launch) (σ : am_M) (a1 a2 : Int32) (res : Int32 × am_M), X8_readStepsR n d σ a1 a2 = some res → am_Con l yX8_readSteps cX8_readSteps 6 (some .int) (103 * d) [.ref 0, .int a1, .int a2] (wX8 σ) (fun (r : Option Value) (w : am_W) => r = (some (.int res.1)) ∧ w = (wX8 res.2)) := by
    intro d
    induction d with
    | zero => intro l σ a1 a2 res h; cases h
    | succ d ih => intro l σ a1 a2 res h; exact c_X8_readSteps l n (X8_readStepsR n d) (103 * d) ih σ a1 a2 res h
  exact key d l
