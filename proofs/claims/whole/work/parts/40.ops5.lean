/-! ASKING OF A CASE -/
theorem suit_is {t fu : Nat} (hfu : 1000 ≤ fu) {σ : Sg} (h : Inv t σ) {N : Nat} (hn : gF σ 5 1 = nI N) {c : Nat} (hc : c < N) (hN7 : N ≤ 7) {w : Nat} (hw : w < 10) : ∃ r, Co_suit fu σ (nI c) (nI w) = some r ∧ Mo_suitNow fu σ (nI c) (nI w) = some (r, σ) := by
  obtain ⟨N', T, R, i1, i2, i3, i4, i5, i6, i7⟩ := h
  have i1' := i1
  obtain ⟨n1, n2, t1, t2, n7, t3, -⟩ := i1'
  have hNN : N' = N := by
    rw [hn, nI_eq (by omega) (by omega)] at n1
    exact n1.symm
  subst hNN
  obtain ⟨⟨m, w1, w2, w3⟩, -, -⟩ := i3
  have i2' := i2
  obtain ⟨⟨d1, d2, d3, d4, d5, d6⟩, -, d7⟩ := i2'
  obtain ⟨⟨S, s1, s2, s3⟩, e1, e2, e3⟩ := i4
  have h7 : 2 ^ N' ≤ 2 ^ 7 := Nat.pow_le_pow_right (by decide) n7
  have hs : Sh_hasSuit σ 5 (nI c) = some 1 := by
    rcases hasSuit5 n1 n7 (nI c) with ⟨-, -, -, ec⟩ | ⟨ho, -⟩
    · exact ec
    · rcases ho with ho | ho
      · exact absurd ho (nI_pos (by omega))
      · rw [nI_leI (by omega) (by omega)] at ho; omega
  have hin : inb (nI c) 7 = true := inb_nI (by omega) (by decide)
  have hix : ix (nI c) = c := ix_nI (by omega)
  obtain ⟨M, M1, M2, M3⟩ := allS_bits (gA σ 17) n7 hc
  have hM : gA σ 21 c = nI M := by rw [(d7 c hc).2, M1]
  have hsz : m &&& M < 128 := Nat.lt_of_le_of_lt Nat.and_le_left (by omega)
  have ea := Mo_allOn_is (σ := σ) n2 n7 hfu hc
  rw [← d6, ← (d7 c hc).2] at ea
  have hneeds := Mo_needsOf_is (σ := σ) n2 n7 s2 s3 hfu (show c < 7 by omega)
  have hposs := Gu_possibleNeeds_is (σ := σ) s1 s3 hfu (show c < 7 by omega)
  have hsame : (fun i => costS (gA σ 94 c) (nI i) (strS (gA σ 97) N' c)) = (fun i => costS (gA σ 11 c) (nI i) (gA σ 19 c)) := by
    funext i; rw [← d3, ← d6, (d7 c hc).1]
  have hsame' : (fun i => allB (okP (gA σ 98) (gA σ 99) (gA σ 100) c (costS (gA σ 94 c) (nI i) (strS (gA σ 97) N' c))) S 0) = (fun i => allB (okP (gA σ 24) (gA σ 26) (gA σ 28) c (costS (gA σ 11 c) (nI i) (gA σ 19 c))) S 0) := by
    funext i; rw [e1, e2, e3, congrFun hsame i]
  rw [hsame'] at hneeds
  obtain ⟨mm, mm1, mm2⟩ := needS_rng (fun i => allB (okP (gA σ 24) (gA σ 26) (gA σ 28) c (costS (gA σ 11 c) (nI i) (gA σ 19 c))) S 0)
  rw [mm1] at hneeds hposs
  have htry := Mo_tryFor_is (σ := σ) n2 n7 hfu (show c < 7 by omega) mm2 hneeds
  have hbest := Gu_bestTry_is (σ := σ) hfu (show c < 7 by omega) mm2 hposs
  rw [hsame] at htry
  have hk : ∀ j, j < 10 → (nI w = nI j ↔ w = j) := fun j hj => nI_eq (by omega) (by omega)
  rw [Co_suit, hs, bindV_some, if_pos (by decide), Mo_suitNow]
  simp only [hin, if_true, hix]
  rcases (by omega : w = 0 ∨ w = 1 ∨ w = 2 ∨ w = 3 ∨ w = 4 ∨ w = 5 ∨ w = 6 ∨ w = 7 ∨ w = 8 ∨ w = 9) with rfl | rfl | rfl | rfl | rfl | rfl | rfl | rfl | rfl | rfl
  · exact ⟨gA σ 11 c, by rw [if_pos (by decide), Sh_kind, at_ki5 (by omega), bindV_some, bindV_some], by rw [if_pos (by decide), d3]⟩
  · exact ⟨gA σ 13 c, by rw [if_neg (by decide), if_pos (by decide), Sh_need, at_ne5 (by omega), bindV_some, bindV_some], by rw [if_neg (by decide), if_pos (by decide), d4]⟩
  · exact ⟨gA σ 15 c, by rw [if_neg (by decide), if_neg (by decide), if_pos (by decide), Sh_worth, at_wo5 (by omega), bindV_some, bindV_some], by rw [if_neg (by decide), if_neg (by decide), if_pos (by decide), d5]⟩
  · exact ⟨gA σ 17 c, by rw [if_neg (by decide), if_neg (by decide), if_neg (by decide), if_pos (by decide), Sh_hangsOn, at_ha5 (by omega), bindV_some, bindV_some], by rw [if_neg (by decide), if_neg (by decide), if_neg (by decide), if_pos (by decide), d6]⟩
  · exact ⟨costS (gA σ 11 c) (gA σ 13 c) (gA σ 19 c), by rw [if_neg (by decide), if_neg (by decide), if_neg (by decide), if_neg (by decide), if_pos (by decide), cost5 (by omega), bindV_some], by rw [if_neg (by decide), if_neg (by decide), if_neg (by decide), if_neg (by decide), if_pos (by decide), Mo_cost_is n2 n7 hfu (by omega), bindV_some, costs_two i2 hc]⟩
  · refine ⟨b2 (hasX (nI m) (nI c)), ?_, ?_⟩
    · rw [if_neg (by decide), if_neg (by decide), if_neg (by decide), if_neg (by decide), if_neg (by decide), if_pos (by decide), Sh_righted, bindV_some, Co_has_is, bindV_some, w1]
      cases hasX (nI m) (nI c) <;> rfl
    · rw [if_neg (by decide), if_neg (by decide), if_neg (by decide), if_neg (by decide), if_neg (by decide), if_pos (by decide), Mo_isIn_is, bindV_some, w2]
      cases hasX (nI m) (nI c) <;> rfl
  · exact ⟨gA σ 21 c, by rw [if_neg (by decide), if_neg (by decide), if_neg (by decide), if_neg (by decide), if_neg (by decide), if_neg (by decide), if_pos (by decide), Sh_below, at_bl5 (by omega), bindV_some, bindV_some], by rw [if_neg (by decide), if_neg (by decide), if_neg (by decide), if_neg (by decide), if_neg (by decide), if_neg (by decide), if_pos (by decide), ea, bindV_some]⟩
  · refine ⟨sizeS (nI (m &&& M)), ?_, ?_⟩
    · rw [if_neg (by decide), if_neg (by decide), if_neg (by decide), if_neg (by decide), if_neg (by decide), if_neg (by decide), if_neg (by decide), if_pos (by decide), Sh_shakes, at_bl5 (by omega), bindV_some, w1, hM, nI_and, bitCount_is _ hsz, bindV_some, bindV_some]
    · rw [if_neg (by decide), if_neg (by decide), if_neg (by decide), if_neg (by decide), if_neg (by decide), if_neg (by decide), if_neg (by decide), if_pos (by decide), ea, bindV_some, w2, hM, nI_and, Mo_size_is hfu, bindV_some, Nat.and_comm]
  · exact ⟨nI mm, by rw [if_neg (by decide), if_neg (by decide), if_neg (by decide), if_neg (by decide), if_neg (by decide), if_neg (by decide), if_neg (by decide), if_neg (by decide), if_pos (by decide), hposs, bindV_some], by rw [if_neg (by decide), if_neg (by decide), if_neg (by decide), if_neg (by decide), if_neg (by decide), if_neg (by decide), if_neg (by decide), if_neg (by decide), if_pos (by decide), hneeds, bindP_some]⟩
  · exact ⟨_, by rw [if_neg (by decide), if_neg (by decide), if_neg (by decide), if_neg (by decide), if_neg (by decide), if_neg (by decide), if_neg (by decide), if_neg (by decide), if_neg (by decide), if_pos (by decide), hbest, bindV_some], by rw [if_neg (by decide), if_neg (by decide), if_neg (by decide), if_neg (by decide), if_neg (by decide), if_neg (by decide), if_neg (by decide), if_neg (by decide), if_neg (by decide), htry, bindP_some]⟩
theorem nine_of {w : Int32} (h0 : ¬ w < 0) (h9 : ¬ 9 < w) : ∃ j, j < 10 ∧ w = nI j := by
  obtain ⟨j, hj, rfl⟩ := nI_of h0
  rw [show (9 : Int32) = nI 9 from rfl, nI_ltI (by omega) hj] at h9
  exact ⟨j, by omega, rfl⟩
theorem suit_else {w : Int32} (h : w < 0 ∨ 9 < w) : w ≠ 0 ∧ w ≠ 1 ∧ w ≠ 2 ∧ w ≠ 3 ∧ w ≠ 4 ∧ w ≠ 5 ∧ w ≠ 6 ∧ w ≠ 7 ∧ w ≠ 8 ∧ w ≠ 9 := by
  refine ⟨?_, ?_, ?_, ?_, ?_, ?_, ?_, ?_, ?_, ?_⟩ <;> rintro rfl <;> revert h <;> decide
theorem op_suit {t fu : Nat} (hfu : 1000 ≤ fu) {σ : Sg} (h : Inv t σ) (a b : Int32) : opV t (Co_suit fu σ a b) (Mo_suit fu σ a b) := by
  have hI : Inv (t + 1) σ := h.mono (by omega)
  have h' := h
  obtain ⟨N, T, R, ⟨n1, n2, t1, t2, n7, t3, -⟩, -⟩ := h'
  rcases hasSuit5 n1 n7 a with ⟨c, hc, rfl, ec⟩ | ⟨ho, ec⟩
  · have m1 : Mo_isCase σ (nI c) = some 1 := isCase_in n2 n7 hc
    by_cases hb : b < 0 ∨ 9 < b
    · obtain ⟨q0, q1, q2, q3, q4, q5, q6, q7, q8, q9⟩ := suit_else hb
      refine ⟨-102, σ, by rw [Co_suit, ec, bindV_some, if_pos (by decide), if_neg q0, if_neg q1, if_neg q2, if_neg q3, if_neg q4, if_neg q5, if_neg q6, if_neg q7, if_neg q8, if_neg q9], ?_, hI⟩
      rw [Mo_suit, m1, bindV_some, if_pos (by decide), within_is, bindV_some, if_pos]
      rcases hb with hb | hb <;> simp [hb, b2]
    · have hb0 : ¬ b < 0 := fun z => hb (Or.inl z)
      have hb9 : ¬ 9 < b := fun z => hb (Or.inr z)
      obtain ⟨j, hj, rfl⟩ := nine_of hb0 hb9
      obtain ⟨r, r1, r2⟩ := suit_is hfu h n1 hc n7 hj
      refine ⟨r, σ, r1, ?_, hI⟩
      rw [Mo_suit, m1, bindV_some, if_pos (by decide), within_is, bindV_some, if_neg, r2, bindP_some]
      simp [hb0, hb9, b2]
  · exact ⟨-101, σ, by rw [Co_suit, ec, bindV_some, if_neg (by decide)], by rw [Mo_suit, isCase_out n2 n7 ho, bindV_some, if_neg (by decide)], hI⟩
