/-! THE PLAN: the call -/
theorem plan_two {σ : Sg} {N T fu : Nat} (hfu : 100000 ≤ fu) (i2 : I2 σ N) (hN2 : gF σ 5 1 = nI N) (hn : gF σ 91 2 = nI N) (hT2 : gF σ 5 0 = nI T) (ht : gF σ 91 1 = nI T) (hN7 : N ≤ 7) (hT3 : T ≤ 3) (hr : gF σ 5 11 = gF σ 91 9) :
    ∃ h p row s1, Pl_seek fu σ = some s1 ∧ vw s1 = vw σ ∧ gF s1 54 4 = h ∧ gF s1 54 5 = p ∧ (∀ i, i < N → gA s1 60 i = nI (row i) - 1) ∧ ∀ s, vw s = vw σ → ∀ a : Int32, (a = 0 ∨ a = 1 ∨ ∃ c, c < 7 ∧ a = nI (c + 10)) → ∃ s2, Mo_planNow fu s a = some (if a = 0 then h else if a = 1 then p else (if a - 10 < nI N then nI (row (ix (a - 10))) - 1 else -1), s2) ∧ vw s2 = vw σ := by
  sorry
theorem op_plan {t fu : Nat} (hfu : 100000 ≤ fu) {σ : Sg} (h : Inv t σ) (a : Int32) : opP t (Co_plan fu σ a) (fun s => Mo_plan fu s a) := by
  sorry
