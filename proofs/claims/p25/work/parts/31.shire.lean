/-! WHAT THE CLASS'S SHIRE ANSWERS -/

/-! the shire at 5 -/
theorem hasSuit5 {σ : Sg} {N : Nat} (hN : gF σ 5 1 = nI N) (hN7 : N ≤ 7) (a : Int32) : (∃ c, c < N ∧ a = nI c ∧ Sh_hasSuit σ 5 a = some 1) ∨ ((a < 0 ∨ nI N ≤ a) ∧ Sh_hasSuit σ 5 a = some 0) := by
  rw [Sh_hasSuit, hN]
  by_cases h0 : a < 0
  · exact Or.inr ⟨Or.inl h0, by rw [if_pos h0]⟩
  · by_cases h1 : nI N ≤ a
    · exact Or.inr ⟨Or.inr h1, by rw [if_neg h0, if_pos h1]⟩
    · obtain ⟨c, hc, rfl⟩ := nI_of h0
      rw [nI_leI (by omega) hc] at h1
      exact Or.inl ⟨c, by omega, rfl, by rw [if_neg h0, if_neg (by rw [nI_leI (by omega) hc]; omega)]⟩
theorem hasTree5 {σ : Sg} {T : Nat} (hT : gF σ 5 0 = nI T) (hT3 : T ≤ 3) (a : Int32) : (∃ t, t < T ∧ a = nI t ∧ Sh_hasTree σ 5 a = some 1) ∨ ((a < 0 ∨ nI T ≤ a) ∧ Sh_hasTree σ 5 a = some 0) := by
  rw [Sh_hasTree, hT]
  by_cases h0 : a < 0
  · exact Or.inr ⟨Or.inl h0, by rw [if_pos h0]⟩
  · by_cases h1 : nI T ≤ a
    · exact Or.inr ⟨Or.inr h1, by rw [if_neg h0, if_pos h1]⟩
    · obtain ⟨c, hc, rfl⟩ := nI_of h0
      rw [nI_leI (by omega) hc] at h1
      exact Or.inl ⟨c, by omega, rfl, by rw [if_neg h0, if_neg (by rw [nI_leI (by omega) hc]; omega)]⟩
theorem at_be5 {σ : Sg} {i : Nat} (h : i < 3) : Rw_at σ (5 + 1) (nI i) = some (gA σ 7 i) := Rw_at_in (n := 3) rfl h (by decide)
theorem at_bi5 {σ : Sg} {i : Nat} (h : i < 3) : Rw_at σ (5 + 3) (nI i) = some (gA σ 9 i) := Rw_at_in (n := 3) rfl h (by decide)
theorem at_ki5 {σ : Sg} {i : Nat} (h : i < 7) : Rw_at σ (5 + 5) (nI i) = some (gA σ 11 i) := Rw_at_in (n := 7) rfl h (by decide)
theorem at_ne5 {σ : Sg} {i : Nat} (h : i < 7) : Rw_at σ (5 + 7) (nI i) = some (gA σ 13 i) := Rw_at_in (n := 7) rfl h (by decide)
theorem at_wo5 {σ : Sg} {i : Nat} (h : i < 7) : Rw_at σ (5 + 9) (nI i) = some (gA σ 15 i) := Rw_at_in (n := 7) rfl h (by decide)
theorem at_ha5 {σ : Sg} {i : Nat} (h : i < 7) : Rw_at σ (5 + 11) (nI i) = some (gA σ 17 i) := Rw_at_in (n := 7) rfl h (by decide)
theorem at_st5 {σ : Sg} {i : Nat} (h : i < 7) : Rw_at σ (5 + 13) (nI i) = some (gA σ 19 i) := Rw_at_in (n := 7) rfl h (by decide)
theorem at_bl5 {σ : Sg} {i : Nat} (h : i < 7) : Rw_at σ (5 + 15) (nI i) = some (gA σ 21 i) := Rw_at_in (n := 7) rfl h (by decide)
theorem costAtNeed5 {σ : Sg} {c : Nat} (hc : c < 7) (n : Int32) : Sh_costAtNeed σ 5 (nI c) n = some (costS (gA σ 11 c) n (gA σ 19 c)) := by
  rw [Sh_costAtNeed, at_st5 hc, bindV_some, at_ki5 hc, bindV_some, costS]
  generalize gA σ 11 c = x
  generalize gA σ 19 c = y
  by_cases h1 : x = 1
  · rw [if_pos h1, if_pos h1]
  · rw [if_neg h1, if_neg h1]
    by_cases h2 : x = 2
    · rw [if_pos h2, if_pos h2]
    · rw [if_neg h2, if_neg h2]
      by_cases h3 : x = 3
      · rw [if_pos h3, if_pos h3]
      · rw [if_neg h3, if_neg h3]
        by_cases h4 : x = 4
        · rw [if_pos h4, if_pos h4]
        · rw [if_neg h4, if_neg h4]
theorem cost5 {σ : Sg} {c : Nat} (hc : c < 7) : Sh_cost σ 5 (nI c) = some (costS (gA σ 11 c) (gA σ 13 c) (gA σ 19 c)) := by
  rw [Sh_cost, at_ne5 hc, bindV_some, costAtNeed5 hc, bindV_some]
theorem isOpen5 {σ : Sg} {c : Nat} (hc : c < 7) (done : Int32) : Sh_isOpen σ 5 (nI c) done = some (b2 (openS (gA σ 11) (gA σ 17) done c)) := by
  rw [Sh_isOpen, Co_has_is, bindV_some, openS]
  cases h : hasX done (nI c) with
  | true => rw [if_neg (by decide)]; rfl
  | false =>
    rw [if_pos (by rfl), at_ha5 hc, bindV_some, at_ki5 hc, bindV_some]
    by_cases h3 : gA σ 11 c = 3
    · rw [if_neg (by simp [h3])]
      by_cases h4 : gA σ 17 c = -1
      · rw [if_pos h4, h3, h4]; rfl
      · rw [if_neg h4, Co_has_is, bindV_some, h3]
        have e : (gA σ 17 c == -1) = false := by simpa using h4
        rw [e]
        cases hasX done (gA σ 17 c) <;> rfl
    · rw [if_pos h3]
      have e : (gA σ 11 c == 3) = false := by simpa using h3
      rw [e]; rfl
theorem isPossible5 {σ : Sg} {c t : Nat} (hc : c < 7) (ht : t < 3) : Sh_isPossible σ 5 (nI c) (nI t) = some (b2 (openS (gA σ 11) (gA σ 17) (gF σ 5 11) c && !decide (gA σ 7 t < costS (gA σ 11 c) (gA σ 13 c) (gA σ 19 c)))) := by
  rw [Sh_isPossible, isOpen5 hc, bindV_some]
  cases openS (gA σ 11) (gA σ 17) (gF σ 5 11) c with
  | false => rw [if_pos (by rfl)]; rfl
  | true =>
    rw [if_neg (by decide), at_be5 ht, bindV_some, cost5 hc, bindV_some]
    by_cases h : gA σ 7 t < costS (gA σ 11 c) (gA σ 13 c) (gA σ 19 c)
    · rw [if_pos h]; simp [h, b2]
    · rw [if_neg h]; simp [h, b2]
theorem worthOf5 {σ : Sg} {N fu : Nat} (hN : gF σ 5 1 = nI N) (hN7 : N ≤ 7) (hfu : 1000 ≤ fu) (bits : Int32) : Sh_worthOf fu σ 5 bits = some (worthS (gA σ 15) N bits) := by
  rw [Sh_worthOf, show (0 : Int32) = nI 0 from rfl]
  refine (loop_f0 (N := N) (L := fun n acc i => Sh_worthOf_L4 fu 5 bits σ (fun l2_5 l3_6 => some l2_5) n acc i) (kont := fun a _ => some a) (f := fun i a => a + (if hasX bits (nI i) then gA σ 15 i else 0)) ?_ ?_ N fu (nI 0) 0 (Nat.zero_add N) (by omega)).trans rfl
  · intro n acc i hi
    show Sh_worthOf_L4 fu 5 bits σ _ (n + 1) acc (nI i) = _
    rw [Sh_worthOf_L4, hN, if_neg (nI_ge hi (by omega)), Co_has_is, bindV_some, nI_1]
    cases hasX bits (nI i) with
    | false => rw [if_pos (by rfl)]; rfl
    | true => rw [if_neg (by decide), at_wo5 (by omega), bindV_some]; rfl
  · intro n acc
    show Sh_worthOf_L4 fu 5 bits σ _ (n + 1) acc (nI N) = _
    rw [Sh_worthOf_L4, hN, if_pos (Int32.le_refl _)]
theorem holds5 {σ : Sg} {N fu : Nat} (hN : gF σ 5 1 = nI N) (hN7 : N ≤ 7) (hfu : 1000 ≤ fu) : Sh_holds fu σ 5 = some (worthS (gA σ 15) N (gF σ 5 11)) := by
  rw [Sh_holds, worthOf5 hN hN7 hfu, bindV_some]

/-! the shire at 67 -/
theorem hasSuit67 {σ : Sg} {N : Nat} (hN : gF σ 67 1 = nI N) (hN7 : N ≤ 7) (a : Int32) : (∃ c, c < N ∧ a = nI c ∧ Sh_hasSuit σ 67 a = some 1) ∨ ((a < 0 ∨ nI N ≤ a) ∧ Sh_hasSuit σ 67 a = some 0) := by
  rw [Sh_hasSuit, hN]
  by_cases h0 : a < 0
  · exact Or.inr ⟨Or.inl h0, by rw [if_pos h0]⟩
  · by_cases h1 : nI N ≤ a
    · exact Or.inr ⟨Or.inr h1, by rw [if_neg h0, if_pos h1]⟩
    · obtain ⟨c, hc, rfl⟩ := nI_of h0
      rw [nI_leI (by omega) hc] at h1
      exact Or.inl ⟨c, by omega, rfl, by rw [if_neg h0, if_neg (by rw [nI_leI (by omega) hc]; omega)]⟩
theorem hasTree67 {σ : Sg} {T : Nat} (hT : gF σ 67 0 = nI T) (hT3 : T ≤ 3) (a : Int32) : (∃ t, t < T ∧ a = nI t ∧ Sh_hasTree σ 67 a = some 1) ∨ ((a < 0 ∨ nI T ≤ a) ∧ Sh_hasTree σ 67 a = some 0) := by
  rw [Sh_hasTree, hT]
  by_cases h0 : a < 0
  · exact Or.inr ⟨Or.inl h0, by rw [if_pos h0]⟩
  · by_cases h1 : nI T ≤ a
    · exact Or.inr ⟨Or.inr h1, by rw [if_neg h0, if_pos h1]⟩
    · obtain ⟨c, hc, rfl⟩ := nI_of h0
      rw [nI_leI (by omega) hc] at h1
      exact Or.inl ⟨c, by omega, rfl, by rw [if_neg h0, if_neg (by rw [nI_leI (by omega) hc]; omega)]⟩
theorem at_be67 {σ : Sg} {i : Nat} (h : i < 3) : Rw_at σ (67 + 1) (nI i) = some (gA σ 69 i) := Rw_at_in (n := 3) rfl h (by decide)
theorem at_bi67 {σ : Sg} {i : Nat} (h : i < 3) : Rw_at σ (67 + 3) (nI i) = some (gA σ 71 i) := Rw_at_in (n := 3) rfl h (by decide)
theorem at_ki67 {σ : Sg} {i : Nat} (h : i < 7) : Rw_at σ (67 + 5) (nI i) = some (gA σ 73 i) := Rw_at_in (n := 7) rfl h (by decide)
theorem at_ne67 {σ : Sg} {i : Nat} (h : i < 7) : Rw_at σ (67 + 7) (nI i) = some (gA σ 75 i) := Rw_at_in (n := 7) rfl h (by decide)
theorem at_wo67 {σ : Sg} {i : Nat} (h : i < 7) : Rw_at σ (67 + 9) (nI i) = some (gA σ 77 i) := Rw_at_in (n := 7) rfl h (by decide)
theorem at_ha67 {σ : Sg} {i : Nat} (h : i < 7) : Rw_at σ (67 + 11) (nI i) = some (gA σ 79 i) := Rw_at_in (n := 7) rfl h (by decide)
theorem at_st67 {σ : Sg} {i : Nat} (h : i < 7) : Rw_at σ (67 + 13) (nI i) = some (gA σ 81 i) := Rw_at_in (n := 7) rfl h (by decide)
theorem at_bl67 {σ : Sg} {i : Nat} (h : i < 7) : Rw_at σ (67 + 15) (nI i) = some (gA σ 83 i) := Rw_at_in (n := 7) rfl h (by decide)
theorem costAtNeed67 {σ : Sg} {c : Nat} (hc : c < 7) (n : Int32) : Sh_costAtNeed σ 67 (nI c) n = some (costS (gA σ 73 c) n (gA σ 81 c)) := by
  rw [Sh_costAtNeed, at_st67 hc, bindV_some, at_ki67 hc, bindV_some, costS]
  generalize gA σ 73 c = x
  generalize gA σ 81 c = y
  by_cases h1 : x = 1
  · rw [if_pos h1, if_pos h1]
  · rw [if_neg h1, if_neg h1]
    by_cases h2 : x = 2
    · rw [if_pos h2, if_pos h2]
    · rw [if_neg h2, if_neg h2]
      by_cases h3 : x = 3
      · rw [if_pos h3, if_pos h3]
      · rw [if_neg h3, if_neg h3]
        by_cases h4 : x = 4
        · rw [if_pos h4, if_pos h4]
        · rw [if_neg h4, if_neg h4]
theorem cost67 {σ : Sg} {c : Nat} (hc : c < 7) : Sh_cost σ 67 (nI c) = some (costS (gA σ 73 c) (gA σ 75 c) (gA σ 81 c)) := by
  rw [Sh_cost, at_ne67 hc, bindV_some, costAtNeed67 hc, bindV_some]
theorem isOpen67 {σ : Sg} {c : Nat} (hc : c < 7) (done : Int32) : Sh_isOpen σ 67 (nI c) done = some (b2 (openS (gA σ 73) (gA σ 79) done c)) := by
  rw [Sh_isOpen, Co_has_is, bindV_some, openS]
  cases h : hasX done (nI c) with
  | true => rw [if_neg (by decide)]; rfl
  | false =>
    rw [if_pos (by rfl), at_ha67 hc, bindV_some, at_ki67 hc, bindV_some]
    by_cases h3 : gA σ 73 c = 3
    · rw [if_neg (by simp [h3])]
      by_cases h4 : gA σ 79 c = -1
      · rw [if_pos h4, h3, h4]; rfl
      · rw [if_neg h4, Co_has_is, bindV_some, h3]
        have e : (gA σ 79 c == -1) = false := by simpa using h4
        rw [e]
        cases hasX done (gA σ 79 c) <;> rfl
    · rw [if_pos h3]
      have e : (gA σ 73 c == 3) = false := by simpa using h3
      rw [e]; rfl
theorem isPossible67 {σ : Sg} {c t : Nat} (hc : c < 7) (ht : t < 3) : Sh_isPossible σ 67 (nI c) (nI t) = some (b2 (openS (gA σ 73) (gA σ 79) (gF σ 67 11) c && !decide (gA σ 69 t < costS (gA σ 73 c) (gA σ 75 c) (gA σ 81 c)))) := by
  rw [Sh_isPossible, isOpen67 hc, bindV_some]
  cases openS (gA σ 73) (gA σ 79) (gF σ 67 11) c with
  | false => rw [if_pos (by rfl)]; rfl
  | true =>
    rw [if_neg (by decide), at_be67 ht, bindV_some, cost67 hc, bindV_some]
    by_cases h : gA σ 69 t < costS (gA σ 73 c) (gA σ 75 c) (gA σ 81 c)
    · rw [if_pos h]; simp [h, b2]
    · rw [if_neg h]; simp [h, b2]
theorem worthOf67 {σ : Sg} {N fu : Nat} (hN : gF σ 67 1 = nI N) (hN7 : N ≤ 7) (hfu : 1000 ≤ fu) (bits : Int32) : Sh_worthOf fu σ 67 bits = some (worthS (gA σ 77) N bits) := by
  rw [Sh_worthOf, show (0 : Int32) = nI 0 from rfl]
  refine (loop_f0 (N := N) (L := fun n acc i => Sh_worthOf_L4 fu 67 bits σ (fun l2_5 l3_6 => some l2_5) n acc i) (kont := fun a _ => some a) (f := fun i a => a + (if hasX bits (nI i) then gA σ 77 i else 0)) ?_ ?_ N fu (nI 0) 0 (Nat.zero_add N) (by omega)).trans rfl
  · intro n acc i hi
    show Sh_worthOf_L4 fu 67 bits σ _ (n + 1) acc (nI i) = _
    rw [Sh_worthOf_L4, hN, if_neg (nI_ge hi (by omega)), Co_has_is, bindV_some, nI_1]
    cases hasX bits (nI i) with
    | false => rw [if_pos (by rfl)]; rfl
    | true => rw [if_neg (by decide), at_wo67 (by omega), bindV_some]; rfl
  · intro n acc
    show Sh_worthOf_L4 fu 67 bits σ _ (n + 1) acc (nI N) = _
    rw [Sh_worthOf_L4, hN, if_pos (Int32.le_refl _)]
theorem holds67 {σ : Sg} {N fu : Nat} (hN : gF σ 67 1 = nI N) (hN7 : N ≤ 7) (hfu : 1000 ≤ fu) : Sh_holds fu σ 67 = some (worthS (gA σ 77) N (gF σ 67 11)) := by
  rw [Sh_holds, worthOf67 hN hN7 hfu, bindV_some]
