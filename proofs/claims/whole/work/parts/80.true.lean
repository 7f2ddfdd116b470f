/-! THE LAW'S FUNCTION ANSWERS 1 -/
def law_fu : Nat := 100000
theorem law_true (xs : Nat → Int32) (L : Nat) (hL : L ≤ 2560) : ∃ σ' : Sg, La_law law_fu xs L ((fun _ _ => 0), (fun _ _ => 0), (fun _ _ => 0)) = some (1, σ') := by
  rw [La_law]
  exact law_run (fu := law_fu) (by rw [law_fu]; exact Nat.le_refl _) hL 512 0 law_fu _ (by omega) (by rw [law_fu]; omega) (by omega) Inv_0
