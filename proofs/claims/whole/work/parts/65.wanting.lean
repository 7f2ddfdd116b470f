/-! STILL WANTING -/
theorem op_plan {t fu : Nat} (hfu : 100000 ≤ fu) {σ : Sg} (h : Inv t σ) (a : Int32) : opP t (Co_plan fu σ a) (fun s => Mo_plan fu s a) := by
  sorry
