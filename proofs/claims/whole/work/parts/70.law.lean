/-! THE LAW: call by call -/
theorem nI_p5 (l : Nat) : nI l + 5 = nI (l + 5) := nI_add l 5
theorem lg_same (x : Int64) : lg_cmp x x = 0 := by
  rw [lg_cmp]
  simp
theorem law_step {fu L t n : Nat} {xs : Nat → Int32} {σ : Sg} (hfu : 100000 ≤ fu) (hL : L ≤ 2560) (ht : 5 * t + 5 ≤ L) (h : Inv t σ) (ih : ∀ σ', Inv (t + 1) σ' → ∃ σ'', La_law_L18 fu xs L (fun l3_140 s141 => some ((1 : Int32), s141)) n (nI (5 * t + 5)) σ' = some (1, σ'')) : ∃ σ'', La_law_L18 fu xs L (fun l3_140 s141 => some ((1 : Int32), s141)) (n + 1) (nI (5 * t)) σ = some (1, σ'') := by
  have hI : Inv (t + 1) σ := h.mono (by omega)
  have hc : ¬ (Int32.ofNat L) - (5 : Int32) < nI (5 * t) := by
    show ¬ nI L - 5 < nI (5 * t)
    rw [show (5 : Int32) = nI 5 from rfl, pk_sub (by omega), nI_ltI (by omega) (by omega)]
    omega
  have i0 : inb (nI (5 * t)) L = true := inb_nI (by omega) (by omega)
  have i1 : inb (nI (5 * t + 1)) L = true := inb_nI (by omega) (by omega)
  have i2 : inb (nI (5 * t + 2)) L = true := inb_nI (by omega) (by omega)
  have i3 : inb (nI (5 * t + 3)) L = true := inb_nI (by omega) (by omega)
  have i4 : inb (nI (5 * t + 4)) L = true := inb_nI (by omega) (by omega)
  have x0 : ix (nI (5 * t)) = 5 * t := ix_nI (by omega)
  have x1 : ix (nI (5 * t + 1)) = 5 * t + 1 := ix_nI (by omega)
  have x2 : ix (nI (5 * t + 2)) = 5 * t + 2 := ix_nI (by omega)
  have x3 : ix (nI (5 * t + 3)) = 5 * t + 3 := ix_nI (by omega)
  have x4 : ix (nI (5 * t + 4)) = 5 * t + 4 := ix_nI (by omega)
  rw [La_law_L18, if_neg hc, if_pos i0]
  simp only [nI_1, nI_p2, nI_p3, nI_p4, nI_p5, i1, i2, i3, i4, x0, x1, x2, x3, x4, if_true]
  generalize xs (5 * t) &&& (31 : Int32) = o
  generalize xs (5 * t + 1) = A
  generalize xs (5 * t + 2) = B
  generalize xs (5 * t + 3) = C
  generalize xs (5 * t + 4) = D
  by_cases o0 : o = 0
  · obtain ⟨r, σ1, σ2, c1, c2, hi⟩ := op_letter h A
    have c2' : Mo_letter σ1 A = some (r, σ2) := c2
    rw [if_pos o0, c1, bindP_some, c2', bindP_some, if_pos rfl]
    exact ih σ2 hi
  rw [if_neg o0]
  by_cases o1 : o = 1
  · obtain ⟨r, σ1, σ2, c1, c2, hi⟩ := op_blank h
    have c2' : Mo_blank σ1 = some (r, σ2) := c2
    rw [if_pos o1, c1, bindP_some, c2', bindP_some, if_pos rfl]
    exact ih σ2 hi
  rw [if_neg o1]
  by_cases o2 : o = 2
  · obtain ⟨r, σ1, σ2, c1, c2, hi⟩ := op_fault (fu := fu) (by omega) h
    have c2' : Mo_fault fu σ1 = some (r, σ2) := c2
    rw [if_pos o2, c1, bindP_some, c2', bindP_some, if_pos rfl]
    exact ih σ2 hi
  rw [if_neg o2]
  by_cases o3 : o = 3
  · obtain ⟨r, σ1, σ2, c1, c2, hi⟩ := op_shire (fu := fu) (by omega) h
    have c2' : Mo_shire fu σ1 = some (r, σ2) := c2
    rw [if_pos o3, c1, bindP_some, c2', bindP_some, if_pos rfl]
    exact ih σ2 hi
  rw [if_neg o3]
  by_cases o4 : o = 4
  · obtain ⟨r, c1, c2⟩ := op_tree (fu := fu) (by omega) h A B
    rw [if_pos o4, c1, bindV_some, c2, bindV_some, if_pos rfl]
    exact ih σ hI
  rw [if_neg o4]
  by_cases o5 : o = 5
  · obtain ⟨r, σ2, c1, c2, hi⟩ := op_suit (fu := fu) (by omega) h A B
    rw [if_pos o5, c1, bindV_some, c2, bindP_some, if_pos rfl]
    exact ih σ2 hi
  rw [if_neg o5]
  by_cases o6 : o = 6
  · obtain ⟨r, c1, c2⟩ := op_as h A B
    rw [if_pos o6, c1, bindV_some, c2, bindV_some, if_pos rfl]
    exact ih σ hI
  rw [if_neg o6]
  by_cases o7 : o = 7
  · obtain ⟨r, σ1, σ2, c1, c2, hi⟩ := op_right (fu := fu) (by omega) (by omega) h A B
    have c2' : Mo_right fu σ1 A B = some (r, σ2) := c2
    rw [if_pos o7, c1, bindP_some, c2', bindP_some, if_pos rfl]
    exact ih σ2 hi
  rw [if_neg o7]
  by_cases o8 : o = 8
  · obtain ⟨r, σ1, σ2, c1, c2, hi⟩ := op_year (fu := fu) (by omega) (by omega) h
    have c2' : Mo_year fu σ1 = some (r, σ2) := c2
    rw [if_pos o8, c1, bindP_some, c2', bindP_some, if_pos rfl]
    exact ih σ2 hi
  rw [if_neg o8]
  by_cases o9 : o = 9
  · obtain ⟨r, σ1, σ2, c1, c2, hi⟩ := op_birds h A B
    have c2' : Mo_birds σ1 A B = some (r, σ2) := c2
    rw [if_pos o9, c1, bindP_some, c2', bindP_some, if_pos rfl]
    exact ih σ2 hi
  rw [if_neg o9]
  by_cases o10 : o = 10
  · obtain ⟨r, σ1, σ2, c1, c2, hi⟩ := op_plead h A B C
    have c2' : Mo_plead σ1 A B C = some (r, σ2) := c2
    rw [if_pos o10, c1, bindP_some, c2', bindP_some, if_pos rfl]
    exact ih σ2 hi
  rw [if_neg o10]
  by_cases o11 : o = 11
  · obtain ⟨r, σ1, σ2, c1, c2, hi⟩ := op_walk (fu := fu) (by omega) h A
    have c2' : Mo_walk fu σ1 A = some (r, σ2) := c2
    rw [if_pos o11, c1, bindP_some, c2', bindP_some, if_pos rfl]
    exact ih σ2 hi
  rw [if_neg o11]
  by_cases o12 : o = 12
  · obtain ⟨r, σ1, σ2, c1, c2, hi⟩ := op_plan (fu := fu) (by omega) hfu h A
    have c2' : Mo_plan fu σ1 A = some (r, σ2) := c2
    rw [if_pos o12, c1, bindP_some, c2', bindP_some, if_pos rfl]
    exact ih σ2 hi
  rw [if_neg o12]
  by_cases o13 : o = 13
  · obtain ⟨r, σ1, σ2, c1, c2, hi⟩ := op_game (fu := fu) (by omega) h A B
    have c2' : Mo_game fu σ1 A B = some (r, σ2) := c2
    rw [if_pos o13, c1, bindP_some, c2', bindP_some, if_pos rfl]
    exact ih σ2 hi
  rw [if_neg o13]
  by_cases o14 : o = 14
  · obtain ⟨r, σ2, c1, c2, hi⟩ := op_odds (fu := fu) (by omega) h A B C D
    rw [if_pos o14, c1, bindV_some, c2, bindP_some, if_pos rfl]
    exact ih σ2 hi
  rw [if_neg o14]
  by_cases o15 : o = 15
  · by_cases q : C = 0
    · obtain ⟨r, σ1, σ2, c1, c2, hi⟩ := op_see h A B 0
      have c2' : Mo_see σ1 A B 0 = some (r, σ2) := c2
      rw [if_pos o15, if_pos q, c1, bindP_some, if_pos q, c2', bindP_some, if_pos rfl]
      exact ih σ2 hi
    · obtain ⟨r, σ1, σ2, c1, c2, hi⟩ := op_see h A B 1
      have c2' : Mo_see σ1 A B 1 = some (r, σ2) := c2
      rw [if_pos o15, if_neg q, c1, bindP_some, if_neg q, c2', bindP_some, if_pos rfl]
      exact ih σ2 hi
  rw [if_neg o15]
  by_cases o16 : o = 16
  · obtain ⟨r, σ1, σ2, c1, c2, hi⟩ := op_forget h
    have c2' : Mo_forget σ1 = some (r, σ2) := c2
    rw [if_pos o16, c1, bindP_some, c2', bindP_some, if_pos rfl]
    exact ih σ2 hi
  rw [if_neg o16]
  by_cases o17 : o = 17
  · obtain ⟨r, σ1, σ2, c1, c2, hi⟩ := op_centuries (fu := fu) (by omega) (by omega) h A B C
    have c2' : Mo_centuries fu σ1 A B C = some (r, σ2) := c2
    rw [if_pos o17, c1, bindP_some, c2', bindP_some, if_pos rfl]
    exact ih σ2 hi
  rw [if_neg o17]
  by_cases o18 : o = 18
  · obtain ⟨r, σ1, σ2, c1, c2, hi⟩ := op_image (fu := fu) (by omega) (by omega) h
    have c2' : Mo_image fu σ1 = some (r, σ2) := c2
    rw [if_pos o18, c1, bindP_some, c2', bindP_some, if_pos rfl]
    exact ih σ2 hi
  rw [if_neg o18]
  by_cases o19 : o = 19
  · obtain ⟨r, σ1, σ2, c1, c2, hi⟩ := op_restore (fu := fu) (by omega) (by omega) h
    have c2' : Mo_restore fu σ1 = some (r, σ2) := c2
    rw [if_pos o19, c1, bindP_some, c2', bindP_some, if_pos rfl]
    exact ih σ2 hi
  rw [if_neg o19]
  by_cases o20 : o = 20
  · obtain ⟨r, c1, c2⟩ := op_count (fu := fu) (by omega) h A
    rw [if_pos o20, c1, bindV_some, c2, bindV_some, if_pos rfl]
    exact ih σ hI
  rw [if_neg o20]
  by_cases o21 : o = 21
  · obtain ⟨r, σ1, σ2, c1, c2, hi⟩ := op_digest (fu := fu) (by omega) h
    have c2q : Mo_digest fu σ1 = some (r, σ2) := c2
    rw [if_pos o21, c1, bindP_some, c2q, bindP_some, if_pos (lg_same r)]
    exact ih σ2 hi
  rw [if_neg o21]
  exact ih σ hI
theorem law_run {fu L : Nat} {xs : Nat → Int32} (hfu : 100000 ≤ fu) (hL : L ≤ 2560) : ∀ m t n (σ : Sg), L < 5 * t + 5 * (m + 1) → m < n → 5 * t ≤ L → Inv t σ → ∃ σ'', La_law_L18 fu xs L (fun l3_140 s141 => some ((1 : Int32), s141)) n (nI (5 * t)) σ = some (1, σ'') := by
  intro m
  induction m with
  | zero =>
    intro t n σ h1 h2 h3 h
    obtain ⟨n, rfl⟩ : ∃ k, n = k + 1 := ⟨n - 1, by omega⟩
    have hc : (Int32.ofNat L) - (5 : Int32) < nI (5 * t) := by
      show nI L - 5 < nI (5 * t)
      have e1 : (nI L - 5 : Int32).toInt = (L : Int) - 5 := by
        rw [Int32.toInt_sub, nI_toInt (by omega), show ((5 : Int32)).toInt = 5 by decide, Int.bmod_def]
        split <;> omega
      rw [Int32.lt_iff_toInt_lt, e1, nI_toInt (by omega)]
      omega
    exact ⟨σ, by rw [La_law_L18, if_pos hc]⟩
  | succ m ih =>
    intro t n σ h1 h2 h3 h
    obtain ⟨n, rfl⟩ : ∃ k, n = k + 1 := ⟨n - 1, by omega⟩
    by_cases hq : 5 * t + 5 ≤ L
    · exact law_step hfu hL hq h (fun σ' h' => ih (t + 1) n σ' (by omega) (by omega) (by omega) h')
    · exact ih t (n + 1) σ (by omega) (by omega) h3 h
