/-- the expressions, to a depth of d -/
def X8_readExpressionR (n : Nat) : Nat → am_M → Int32 → Option am_M
  | 0 => fun _ _ => none
  | d + 1 => fun σ a1 => X8_readExpression n (X8_readExpressionR n d) σ a1
theorem c_X8_readExpressionR (l : Launch) (n d : Nat) : ∀ (σ : am_M) (a1 : Int32) (res : am_M) (h : X8_readExpressionR n d σ a1 = some res), am_Con l yX8_readExpression cX8_readExpression 4 none (10 * d) [.ref 0, .int a1] (wX8 σ) (fun (r : Option Value) (w : am_W) => r = none ∧ w = (wX8 res)) := by
  have key : ∀ (d : Nat) (l : Launch) (σ : am_M) (a1 : Int32) (res : am_M), X8_readExpressionR n d σ a1 = some res → am_Con l yX8_readExpression cX8_readExpression 4 none (10 * d) [.ref 0, .int a1] (wX8 σ) (fun (r : Option Value) (w : am_W) => r = none ∧ w = (wX8 res)) := by
    intro d
    induction d with
    | zero => intro l σ a1 res h; cases h
    | succ d ih => intro l σ a1 res h; exact c_X8_readExpression l n (X8_readExpressionR n d) (10 * d) ih σ a1 res h
  exact key d l
