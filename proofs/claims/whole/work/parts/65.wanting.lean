/-! STILL WANTING -/
def opL (t : Nat) (C : Option (Int64 × Sg)) (M : Sg → Option (Int64 × Sg)) : Prop := ∃ r σ1 σ2, C = some (r, σ1) ∧ M σ1 = some (r, σ2) ∧ Inv (t + 1) σ2
theorem op_plan {t fu : Nat} (hfu : 100000 ≤ fu) {σ : Sg} (h : Inv t σ) (a : Int32) : opP t (Co_plan fu σ a) (fun s => Mo_plan fu s a) := by
  sorry
theorem op_digest {t fu : Nat} (hfu : 2000 ≤ fu) {σ : Sg} (h : Inv t σ) : opL t (Co_digest fu σ) (fun s => Mo_digest fu s) := by
  sorry
