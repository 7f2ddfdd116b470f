/-! THE LAW'S FUNCTION ANSWERS 1 -/
def law_fu : Nat := 100000
theorem law_true (xs : Nat → Int32) (L : Nat) (hL : L ≤ 260) : ∃ σ' : Sg, La_law law_fu xs L ((fun _ _ => 0), (fun _ _ => 0), (fun _ _ => 0)) = some (1, σ') :=
  law_run hL (by rw [law_fu]; omega) rfl rfl
