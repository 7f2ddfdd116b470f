/-! THE CLASS beside the law's row: what its calls answer -/
def CI (σ : Sg) (W : Nat → Int32) (N T m : Nat) : Prop := (gF σ 5 1 = nI N ∧ gF σ 5 0 = nI T ∧ gF σ 5 11 = nI m) ∧ gF σ 22 3 = nI 0 ∧ (∃ R, gF σ 0 9 = nI R ∧ 0 < R ∧ R ≤ 100) ∧ gF σ 1 1 = nI 0 ∧ (∀ t, t < T → gA σ 7 t = beW W t ∧ gA σ 9 t = biW W t) ∧ ∀ k, k < N → gA σ 11 k = kiW W k ∧ gA σ 13 k = neW W k ∧ gA σ 15 k = woW W k ∧ gA σ 17 k = haW W k ∧ gA σ 19 k = strS (haW W) N k ∧ gA σ 21 k = allS (haW W) N k
theorem CI.cost {σ : Sg} {W : Nat → Int32} {N T m k : Nat} (h : CI σ W N T m) (hk : k < N) : costS (gA σ 11 k) (gA σ 13 k) (gA σ 19 k) = coW W N k := by
  obtain ⟨a1, a2, a3, a4, a5, a6⟩ := h.2.2.2.2.2 k hk
  rw [a1, a2, a5, coW]
theorem CI.opn {σ : Sg} {W : Nat → Int32} {N T m k : Nat} (h : CI σ W N T m) (hk : k < N) (r : Int32) : openS (gA σ 11) (gA σ 17) r k = openS (kiW W) (haW W) r k := by
  obtain ⟨a1, a2, a3, a4, a5, a6⟩ := h.2.2.2.2.2 k hk
  exact openS_cong a1 a4
theorem CI.worth {σ : Sg} {W : Nat → Int32} {N T m : Nat} (h : CI σ W N T m) (r : Int32) : worthS (gA σ 15) N r = worthS (woW W) N r :=
  fo_cong N 0 0 (fun j b _ h2 => by
    obtain ⟨a1, a2, a3, a4, a5, a6⟩ := h.2.2.2.2.2 j (by omega)
    rw [a3])
theorem hasSuit_in {σ : Sg} {N c : Nat} (hN : gF σ 5 1 = nI N) (hN7 : N ≤ 7) (hc : c < N) : Sh_hasSuit σ 5 (nI c) = some 1 := by
  rcases hasSuit5 hN hN7 (nI c) with ⟨-, -, -, ec⟩ | ⟨ho, -⟩
  · exact ec
  · rcases ho with ho | ho
    · exact absurd ho (nI_pos (by omega))
    · rw [nI_leI (by omega) (by omega)] at ho; omega
theorem hasTree_in {σ : Sg} {T c : Nat} (hT : gF σ 5 0 = nI T) (hT3 : T ≤ 3) (hc : c < T) : Sh_hasTree σ 5 (nI c) = some 1 := by
  rcases hasTree5 hT hT3 (nI c) with ⟨-, -, -, ec⟩ | ⟨ho, -⟩
  · exact ec
  · rcases ho with ho | ho
    · exact absurd ho (nI_pos (by omega))
    · rw [nI_leI (by omega) (by omega)] at ho; omega
theorem hasSuit_out {σ : Sg} {N : Nat} (hN : gF σ 5 1 = nI N) : Sh_hasSuit σ 5 (nI N) = some 0 := by
  rw [Sh_hasSuit, hN]
  by_cases h : nI N < 0
  · rw [if_pos h]
  · rw [if_neg h, if_pos (Int32.le_refl _)]
theorem hasTree_out {σ : Sg} {T : Nat} (hT : gF σ 5 0 = nI T) : Sh_hasTree σ 5 (nI T) = some 0 := by
  rw [Sh_hasTree, hT]
  by_cases h : nI T < 0
  · rw [if_pos h]
  · rw [if_neg h, if_pos (Int32.le_refl _)]
theorem hasTree_m1 (σ : Sg) : Sh_hasTree σ 5 (-1) = some 0 := by rw [Sh_hasTree, if_pos (by decide)]
theorem shakes_is {σ : Sg} {W : Nat → Int32} {N T m k : Nat} (h : CI σ W N T m) (hr : RowA W N T m) (hk : k < N) : Sh_shakes σ 5 (nI k) = some (sizeS (allS (haW W) N k &&& nI m)) := by
  obtain ⟨h0, h1, t1, t3, n2, n7, hm⟩ := hr
  have h2 := two7 n7
  obtain ⟨M, M1, M2, M3⟩ := allS_bits (haW W) n7 hk
  obtain ⟨a1, a2, a3, a4, a5, a6⟩ := h.2.2.2.2.2 k hk
  have hsz : m &&& M < 128 := Nat.lt_of_le_of_lt Nat.and_le_left (by omega)
  rw [Sh_shakes, at_bl5 (by omega), bindV_some, a6, M1, h.1.2.2, nI_and, bitCount_is _ hsz, bindV_some, nI_and, Nat.and_comm M m]
theorem Co_suit_is {σ : Sg} {W : Nat → Int32} {N T m k fu : Nat} (h : CI σ W N T m) (hr : RowA W N T m) (hk : k < N) (hfu : 1000 ≤ fu) :
    (Co_suit fu σ (nI k) 0 = some (kiW W k) ∧ Co_suit fu σ (nI k) 1 = some (neW W k) ∧ Co_suit fu σ (nI k) 2 = some (woW W k)) ∧ (Co_suit fu σ (nI k) 3 = some (haW W k) ∧ Co_suit fu σ (nI k) 4 = some (coW W N k) ∧ Co_suit fu σ (nI k) 5 = some (b2 (m.testBit k))) ∧ Co_suit fu σ (nI k) 6 = some (allS (haW W) N k) ∧ Co_suit fu σ (nI k) 7 = some (sizeS (allS (haW W) N k &&& nI m)) ∧ Co_suit fu σ (nI k) 8 = some 511 := by
  have hsh := shakes_is h hr hk
  have hco := h.cost hk
  obtain ⟨h0, h1, t1, t3, n2, n7, hm⟩ := hr
  obtain ⟨a1, a2, a3, a4, a5, a6⟩ := h.2.2.2.2.2 k hk
  have hs := hasSuit_in h.1.1 n7 hk
  have hk7 : k < 7 := by omega
  have hp := Gu_possibleNeeds_is (σ := σ) (S := 0) h.2.1 (by omega) hfu hk7
  have hp' : needS (fun i => allB (okP (gA σ 24) (gA σ 26) (gA σ 28) k (costS (gA σ 11 k) (nI i) (gA σ 19 k))) 0 0) = 511 := (show needS (fun _ => true) = 511 by decide +kernel)
  rw [hp'] at hp
  refine ⟨⟨?_, ?_, ?_⟩, ⟨?_, ?_, ?_⟩, ?_, ?_, ?_⟩
  · rw [Co_suit, hs, bindV_some, if_pos (by decide), if_pos (by decide), Sh_kind, at_ki5 hk7, bindV_some, bindV_some, a1]
  · rw [Co_suit, hs, bindV_some, if_pos (by decide), if_neg (by decide), if_pos (by decide), Sh_need, at_ne5 hk7, bindV_some, bindV_some, a2]
  · rw [Co_suit, hs, bindV_some, if_pos (by decide), if_neg (by decide), if_neg (by decide), if_pos (by decide), Sh_worth, at_wo5 hk7, bindV_some, bindV_some, a3]
  · rw [Co_suit, hs, bindV_some, if_pos (by decide), if_neg (by decide), if_neg (by decide), if_neg (by decide), if_pos (by decide), Sh_hangsOn, at_ha5 hk7, bindV_some, bindV_some, a4]
  · rw [Co_suit, hs, bindV_some, if_pos (by decide), if_neg (by decide), if_neg (by decide), if_neg (by decide), if_neg (by decide), if_pos (by decide), cost5 hk7, bindV_some, hco]
  · rw [Co_suit, hs, bindV_some, if_pos (by decide), if_neg (by decide), if_neg (by decide), if_neg (by decide), if_neg (by decide), if_neg (by decide), if_pos (by decide), Sh_righted, bindV_some, Co_has_is, bindV_some, h.1.2.2, hasX_nI m (by omega)]
    cases m.testBit k <;> rfl
  · rw [Co_suit, hs, bindV_some, if_pos (by decide), if_neg (by decide), if_neg (by decide), if_neg (by decide), if_neg (by decide), if_neg (by decide), if_neg (by decide), if_pos (by decide), Sh_below, at_bl5 hk7, bindV_some, bindV_some, a6]
  · rw [Co_suit, hs, bindV_some, if_pos (by decide), if_neg (by decide), if_neg (by decide), if_neg (by decide), if_neg (by decide), if_neg (by decide), if_neg (by decide), if_neg (by decide), if_pos (by decide), hsh, bindV_some]
  · rw [Co_suit, hs, bindV_some, if_pos (by decide), if_neg (by decide), if_neg (by decide), if_neg (by decide), if_neg (by decide), if_neg (by decide), if_neg (by decide), if_neg (by decide), if_neg (by decide), if_pos (by decide), hp, bindV_some]
theorem Co_tree_is {σ : Sg} {W : Nat → Int32} {N T m t fu : Nat} (h : CI σ W N T m) (hr : RowA W N T m) (ht : t < T) (hfu : 1000 ≤ fu) :
    Co_tree fu σ (nI t) 0 = some (beW W t) ∧ Co_tree fu σ (nI t) 1 = some (biW W t) ∧ Co_tree fu σ (nI t) 2 = some (possS (openS (kiW W) (haW W) (nI m)) (coW W N) (beW W t) N) := by
  obtain ⟨h0, h1, t1, t3, n2, n7, hm⟩ := hr
  obtain ⟨b1, b2'⟩ := h.2.2.2.2.1 t ht
  have e := hasTree_in h.1.2.1 t3 ht
  refine ⟨?_, ?_, ?_⟩
  · rw [Co_tree, e, bindV_some, if_pos (by decide), if_pos (by decide), Sh_berries, at_be5 (by omega), bindV_some, bindV_some, b1]
  · rw [Co_tree, e, bindV_some, if_pos (by decide), if_neg (by decide), if_pos (by decide), Sh_birdsAt, at_bi5 (by omega), bindV_some, bindV_some, b2']
  · rw [Co_tree, e, bindV_some, if_pos (by decide), if_neg (by decide), if_neg (by decide), if_pos (by decide), possibleAt5 h.1.1 n7 hfu (by omega), bindV_some, h.1.2.2, b1]
    congr 1
    refine fo_cong N 0 _ (fun j b _ h2 => ?_)
    have e1 := h.cost (k := j) (by omega)
    have e2 := h.opn (k := j) (by omega) (nI m)
    simp only [e1, e2]
theorem Co_count_is {σ : Sg} {W : Nat → Int32} {N T m fu : Nat} (h : CI σ W N T m) (hr : RowA W N T m) (hfu : 1000 ≤ fu) :
    (Co_count fu σ 0 = some (nI T) ∧ Co_count fu σ 1 = some (nI N) ∧ Co_count fu σ 2 = some (sumS (beW W) T) ∧ Co_count fu σ 3 = some (sumS (biW W) T)) ∧ Co_count fu σ 4 = some (sizeS (nI m)) ∧ Co_count fu σ 5 = some (worthS (woW W) N (nI m)) ∧ Co_count fu σ 6 = some (gF σ 5 12) ∧ Co_count fu σ 7 = some (gF σ 5 13) := by
  have hw := h.worth (nI m)
  obtain ⟨h0, h1, t1, t3, n2, n7, hm⟩ := hr
  have h7 := two7 n7
  refine ⟨⟨?_, ?_, ?_, ?_⟩, ?_, ?_, ?_, ?_⟩
  · rw [Co_count, if_pos (by decide), Sh_trees, bindV_some, h.1.2.1]
  · rw [Co_count, if_neg (by decide), if_pos (by decide), Sh_suits, bindV_some, h.1.1]
  · rw [Co_count, if_neg (by decide), if_neg (by decide), if_pos (by decide), Sh_allBerries, h.1.2.1, Rw_sum_is rfl t3 hfu, bindV_some, bindV_some]
    exact congrArg some (fo_cong T 0 0 (fun j b _ h2 => by rw [(h.2.2.2.2.1 j (by omega)).1]))
  · rw [Co_count, if_neg (by decide), if_neg (by decide), if_neg (by decide), if_pos (by decide), Sh_allBirds, h.1.2.1, Rw_sum_is rfl t3 hfu, bindV_some, bindV_some]
    exact congrArg some (fo_cong T 0 0 (fun j b _ h2 => by rw [(h.2.2.2.2.1 j (by omega)).2]))
  · rw [Co_count, if_neg (by decide), if_neg (by decide), if_neg (by decide), if_neg (by decide), if_pos (by decide), Sh_righted, bindV_some, h.1.2.2, bitCount_is m (by omega), bindV_some]
  · rw [Co_count, if_neg (by decide), if_neg (by decide), if_neg (by decide), if_neg (by decide), if_neg (by decide), if_pos (by decide), holds5 h.1.1 n7 hfu, bindV_some, h.1.2.2, hw]
  · rw [Co_count, if_neg (by decide), if_neg (by decide), if_neg (by decide), if_neg (by decide), if_neg (by decide), if_neg (by decide), if_pos (by decide), Sh_years, bindV_some]
  · rw [Co_count, if_neg (by decide), if_neg (by decide), if_neg (by decide), if_neg (by decide), if_neg (by decide), if_neg (by decide), if_neg (by decide), if_pos (by decide), Sh_rightings, bindV_some]
