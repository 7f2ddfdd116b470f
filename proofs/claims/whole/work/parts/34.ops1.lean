/-! THE CALLS, ONE BY ONE: the class and the model answer alike -/
theorem byte_small : ∀ c, c < 128 → (nI c).toInt8.toInt32 = nI c := by decide +kernel
theorem op_letter {t : Nat} {σ : Sg} (h : Inv t σ) (a : Int32) : opP t (Co_letter σ a) (fun s => Mo_letter s a) := by
  by_cases h0 : a < 32
  · exact ⟨-102, σ, σ, by simp [Co_letter, h0], by simp [Mo_letter, within_is, h0, bindV_some, b2], h.mono (by omega)⟩
  · by_cases h1 : a ≤ 126
    · have h2 : ¬ 126 < a := Int32.not_lt.mpr h1
      have h3 : ¬ a < 0 := fun z => h0 (Int32.lt_trans z (by decide))
      obtain ⟨c, hc, rfl⟩ := nI_of h3
      have hc1 : 32 ≤ c := by
        rw [show (32 : Int32) = nI 32 from rfl, nI_ltI hc (by omega)] at h0
        omega
      have hc2 : c ≤ 126 := by
        rw [show (126 : Int32) = nI 126 from rfl, nI_leI hc (by omega)] at h1
        exact h1
      obtain ⟨N, T, R, i1, i2, i3, i4, ⟨⟨P, p1, p2, p3, p4⟩, p5⟩, i6, i7⟩ := h
      by_cases hP : P < 46
      · have e1 : (nI P < 46) = True := by rw [show (46 : Int32) = nI 46 from rfl, nI_ltB (by omega) (by omega)]; simp [hP]
        have e2 : (nI P = 46) = False := by rw [show (46 : Int32) = nI 46 from rfl, nI_eqB (by omega) (by omega)]; simp; omega
        refine ⟨nI (P + 1), sF (sA σ 3 P (nI c)) 1 1 (nI (P + 1)), sF (sA (sF (sA σ 3 P (nI c)) 1 1 (nI (P + 1))) 101 P (nI c)) 91 17 (nI (P + 1)), ?_, ?_, ?_⟩
        · rw [Co_letter, if_neg h0, if_pos h1, Pg_size, bindV_some, p1, if_pos (by rw [e1]; trivial), Pg_add, p1, Rw_put_in (n := 46) rfl hP (by decide), bindV_some, bindV_some, Pg_size, bindV_some, gF_sA, p1, nI_1]
          rfl
        · have f1 : gF (sF (sA σ 3 P (nI c)) 1 1 (nI (P + 1))) 91 17 = nI P := p2
          simp only [Mo_letter, within_is, bindV_some, h0, h2, f1, e2, inb_nI hP (show 46 < 2147483648 by decide), ix_nI (show P < 2147483648 by omega), byte_small c (by omega), gF_sA, nI_1]
          simp [b2, gF_sF]
        · refine ⟨N, T, R, i1.mono (by omega), i2, i3.mono (by omega), i4, ⟨⟨P + 1, rfl, rfl, by omega, ?_⟩, ?_⟩, i6, i7.mono (by omega)⟩
          · intro i hi
            show ∃ c', (if 3 = 3 ∧ i = P then nI c else gA σ 3 i) = nI c' ∧ _
            by_cases hiP : i = P
            · exact ⟨c, by simp [hiP], hc1, hc2⟩
            · obtain ⟨c', q1, q2⟩ := p4 i (by omega)
              exact ⟨c', by simp [hiP, q1], q2⟩
          · funext i
            show (if 3 = 3 ∧ i = P then nI c else gA σ 3 i) = (if 101 = 101 ∧ i = P then nI c else gA σ 101 i)
            rw [p5]
            simp
      · have hP46 : P = 46 := by omega
        subst hP46
        refine ⟨-104, σ, σ, ?_, ?_, ⟨N, T, R, i1.mono (by omega), i2, i3.mono (by omega), i4, ⟨⟨46, p1, p2, p3, p4⟩, p5⟩, i6, i7.mono (by omega)⟩⟩
        · rw [Co_letter, if_neg h0, if_pos h1, Pg_size, bindV_some, p1, if_neg (by decide)]
        · simp only [Mo_letter, within_is, bindV_some, h0, h2, p2]
          rfl
    · have h2 : 126 < a := Int32.not_le.mp h1
      exact ⟨-102, σ, σ, by rw [Co_letter, if_neg h0, if_neg h1], by simp [Mo_letter, within_is, h2, bindV_some, b2], h.mono (by omega)⟩
theorem op_blank {t : Nat} {σ : Sg} (h : Inv t σ) : opP t (Co_blank σ) (fun s => Mo_blank s) := by
  obtain ⟨N, T, R, i1, i2, i3, i4, ⟨⟨P, p1, p2, p3, p4⟩, p5⟩, i6, i7⟩ := h
  refine ⟨nI P, sF σ 1 1 0, sF (sF σ 1 1 0) 91 17 0, by rw [Co_blank, Pg_size, bindV_some, Pg_clear, bindV_some, p1], ?_, ⟨N, T, R, i1.mono (by omega), i2, i3.mono (by omega), i4, ⟨⟨0, rfl, rfl, by omega, fun i hi => absurd hi (by omega)⟩, p5⟩, i6, i7.mono (by omega)⟩⟩
  show Mo_blank (sF σ 1 1 0) = _
  rw [Mo_blank, show gF (sF σ 1 1 0) 91 17 = nI P from p2]
theorem op_forget {t : Nat} {σ : Sg} (h : Inv t σ) : opP t (Co_forget σ) (fun s => Mo_forget s) := by
  obtain ⟨N, T, R, i1, i2, i3, ⟨⟨S, s1, s2, s3⟩, s4, s5, s6⟩, i5, i6, i7⟩ := h
  refine ⟨nI S, sF σ 22 3 0, sF (sF σ 22 3 0) 91 13 0, by rw [Co_forget, Si_size, bindV_some, Si_clear, bindV_some, s1], ?_, ⟨N, T, R, i1.mono (by omega), i2, i3.mono (by omega), ⟨⟨0, rfl, rfl, by omega⟩, s4, s5, s6⟩, i5, i6, i7.mono (by omega)⟩⟩
  show Mo_forget (sF σ 22 3 0) = _
  rw [Mo_forget, show gF (sF σ 22 3 0) 91 13 = nI S from s2]
theorem op_birds {t : Nat} {σ : Sg} (h : Inv t σ) (a b : Int32) : opP t (Co_birds σ a b) (fun s => Mo_birds s a b) := by
  obtain ⟨N, T, R, i1, i2, i3, i4, i5, i6, i7⟩ := h
  have i1' := i1
  obtain ⟨n1, n2, t1, t2, n7, t3, -⟩ := i1'
  have hI : Inv (t + 1) σ := ⟨N, T, R, i1.mono (by omega), i2, i3.mono (by omega), i4, i5, i6, i7.mono (by omega)⟩
  rcases hasTree5 t1 t3 a with ⟨c, hc, rfl, e⟩ | ⟨ho, e⟩
  · by_cases h0 : b < 0
    · exact ⟨-102, σ, σ, by rw [Co_birds, e, bindV_some, if_pos (by decide), if_pos h0], by simp [Mo_birds, isTree_in t2 t3 hc, bindV_some, within_is, h0, b2], hI⟩
    · by_cases h1 : b ≤ 9
      · have h2 : ¬ 9 < b := Int32.not_lt.mpr h1
        obtain ⟨d, hd, rfl⟩ := nI_of h0
        have hd9 : d ≤ 9 := by
          rw [show (9 : Int32) = nI 9 from rfl, nI_leI hd (by omega)] at h1
          exact h1
        obtain ⟨⟨d1, d2, d3, d4, d5, d6⟩, ⟨r1, r2, r3, r4, r5, r6⟩, d7⟩ := i2
        refine ⟨gA σ 9 c, sA σ 9 c (nI d), sA (sA σ 9 c (nI d)) 93 c (nI d), ?_, ?_, ?_⟩
        · rw [Co_birds, e, bindV_some, if_pos (by decide), if_neg h0, if_pos h1, Sh_birdsAt, at_bi5 (by omega), bindV_some, bindV_some, Sh_setBirds, Rw_put_in (n := 3) rfl (by omega) (by decide), bindV_some, bindV_some]
        · have t2' : gF (sA σ 9 c (nI d)) 91 1 = nI T := t2
          simp only [Mo_birds, isTree_in t2' t3 hc, bindV_some, within_is, h0, h2, inb_nI (show c < 3 by omega) (show 3 < 2147483648 by decide), ix_nI (show c < 2147483648 by omega)]
          rw [if_pos (by decide), if_pos (by decide), d2]
          rfl
        · refine ⟨N, T, R, i1.mono (by omega), ⟨⟨d1, ?_, d3, d4, d5, d6⟩, ⟨r1, ?_, r3, r4, r5, r6⟩, d7⟩, i3.mono (by omega), i4, i5, i6, i7.mono (by omega)⟩
          · funext i
            show (if 9 = 9 ∧ i = c then nI d else gA σ 9 i) = (if 93 = 93 ∧ i = c then nI d else gA σ 93 i)
            rw [d2]; simp
          · intro i hi
            show ∃ b, (if 9 = 9 ∧ i = c then nI d else gA σ 9 i) = nI b ∧ b ≤ 9
            by_cases hic : i = c
            · exact ⟨d, by simp [hic], hd9⟩
            · obtain ⟨b, q1, q2⟩ := r2 i hi
              exact ⟨b, by simp [hic, q1], q2⟩
      · have h2 : 9 < b := Int32.not_le.mp h1
        exact ⟨-102, σ, σ, by rw [Co_birds, e, bindV_some, if_pos (by decide), if_neg h0, if_neg h1], by simp [Mo_birds, isTree_in t2 t3 hc, bindV_some, within_is, h2, b2], hI⟩
  · exact ⟨-101, σ, σ, by rw [Co_birds, e, bindV_some, if_neg (by decide)], by simp [Mo_birds, isTree_out t2 t3 ho, bindV_some], hI⟩
theorem op_plead {t : Nat} {σ : Sg} (h : Inv t σ) (a b w : Int32) : opP t (Co_plead σ a b w) (fun s => Mo_plead s a b w) := by
  obtain ⟨N, T, R, i1, i2, i3, i4, i5, i6, i7⟩ := h
  have i1' := i1
  obtain ⟨n1, n2, t1, t2, n7, t3, -⟩ := i1'
  have hI : Inv (t + 1) σ := ⟨N, T, R, i1.mono (by omega), i2, i3.mono (by omega), i4, i5, i6, i7.mono (by omega)⟩
  rcases hasSuit5 n1 n7 a with ⟨c, hc, rfl, e⟩ | ⟨ho, e⟩
  · have m1 : Mo_isCase σ (nI c) = some 1 := isCase_in n2 n7 hc
    by_cases h0 : b < 1
    · exact ⟨-102, σ, σ, by rw [Co_plead, e, bindV_some, if_pos (by decide), if_pos h0], by simp [Mo_plead, m1, bindV_some, within_is, h0, b2], hI⟩
    · by_cases h1 : 9 < b
      · exact ⟨-102, σ, σ, by rw [Co_plead, e, bindV_some, if_pos (by decide), if_neg h0, if_pos h1], by simp [Mo_plead, m1, bindV_some, within_is, h1, b2], hI⟩
      · by_cases h2 : w < 1
        · exact ⟨-102, σ, σ, by rw [Co_plead, e, bindV_some, if_pos (by decide), if_neg h0, if_neg h1, if_pos h2], by simp [Mo_plead, m1, bindV_some, within_is, h0, h1, h2, b2], hI⟩
        · by_cases h3 : w ≤ 9
          · have h4 : ¬ 9 < w := Int32.not_lt.mpr h3
            obtain ⟨d, hd, rfl⟩ := nI_of (x := b) (fun z => h0 (Int32.lt_trans z (by decide)))
            obtain ⟨u, hu, rfl⟩ := nI_of (x := w) (fun z => h2 (Int32.lt_trans z (by decide)))
            have hd9 : d ≤ 9 := by
              rw [show (9 : Int32) = nI 9 from rfl, nI_ltI (by omega) hd] at h1
              omega
            have hu9 : u ≤ 9 := by
              rw [show (9 : Int32) = nI 9 from rfl, nI_leI hu (by omega)] at h3
              omega
            obtain ⟨⟨d1, d2, d3, d4, d5, d6⟩, ⟨r1, r2, r3, r4, r5, r6⟩, d7⟩ := i2
            refine ⟨gA σ 15 c, sA (sA σ 13 c (nI d)) 15 c (nI u), sA (sA (sA (sA σ 13 c (nI d)) 15 c (nI u)) 95 c (nI d)) 96 c (nI u), ?_, ?_, ?_⟩
            · rw [Co_plead, e, bindV_some, if_pos (by decide), if_neg h0, if_neg h1, if_neg h2, if_pos h3, Sh_worth, at_wo5 (by omega), bindV_some, bindV_some, Sh_setClaim, Rw_put_in (n := 7) rfl (by omega) (by decide), bindV_some, Rw_put_in (n := 7) rfl (by omega) (by decide), bindV_some, bindV_some]
            · have m2 : Mo_isCase (sA (sA σ 13 c (nI d)) 15 c (nI u)) (nI c) = some 1 := m1
              simp only [Mo_plead, m2, bindV_some, within_is, h0, h1, h2, h4, inb_nI (show c < 7 by omega) (show 7 < 2147483648 by decide), ix_nI (show c < 2147483648 by omega)]
              rw [if_pos (by decide), if_neg (by decide), if_pos (by decide), d5]
              rfl
            · refine ⟨N, T, R, i1.mono (by omega), ⟨⟨d1, d2, d3, ?_, ?_, d6⟩, ⟨r1, r2, r3, ?_, ?_, r6⟩, d7⟩, i3.mono (by omega), i4, i5, i6, i7.mono (by omega)⟩
              · funext i
                show (if 13 = 13 ∧ i = c then nI d else gA σ 13 i) = (if 95 = 95 ∧ i = c then nI d else gA σ 95 i)
                rw [d4]; simp
              · funext i
                show (if 15 = 15 ∧ i = c then nI u else gA σ 15 i) = (if 96 = 96 ∧ i = c then nI u else gA σ 96 i)
                rw [d5]; simp
              · intro i hi
                show ∃ b, (if 13 = 13 ∧ i = c then nI d else gA σ 13 i) = nI b ∧ b ≤ 9
                by_cases hic : i = c
                · exact ⟨d, by simp [hic], hd9⟩
                · obtain ⟨b, q1, q2⟩ := r4 i hi
                  exact ⟨b, by simp [hic, q1], q2⟩
              · intro i hi
                show ∃ b, (if 15 = 15 ∧ i = c then nI u else gA σ 15 i) = nI b ∧ b ≤ 9
                by_cases hic : i = c
                · exact ⟨u, by simp [hic], hu9⟩
                · obtain ⟨b, q1, q2⟩ := r5 i hi
                  exact ⟨b, by simp [hic, q1], q2⟩
          · have h4 : 9 < w := Int32.not_le.mp h3
            exact ⟨-102, σ, σ, by rw [Co_plead, e, bindV_some, if_pos (by decide), if_neg h0, if_neg h1, if_neg h2, if_neg h3], by simp [Mo_plead, m1, bindV_some, within_is, h0, h1, h4, b2], hI⟩
  · exact ⟨-101, σ, σ, by rw [Co_plead, e, bindV_some, if_neg (by decide)], by simp [Mo_plead, isCase_out n2 n7 ho, bindV_some], hI⟩
theorem op_as {t : Nat} {σ : Sg} (h : Inv t σ) (a b : Int32) : opQ (Co_as σ a b) (Mo_as σ a b) := by
  obtain ⟨N, T, R, ⟨n1, n2, t1, t2, n7, t3, -⟩, ⟨⟨d1, d2, d3, d4, d5, d6⟩, -, -⟩, -⟩ := h
  rcases hasSuit5 n1 n7 a with ⟨c, hc, rfl, e⟩ | ⟨ho, e⟩
  · have m1 : Mo_isCase σ (nI c) = some 1 := isCase_in n2 n7 hc
    by_cases h0 : b < 0
    · exact ⟨-102, by rw [Co_as, e, bindV_some, if_pos (by decide), if_pos h0], by simp [Mo_as, m1, bindV_some, within_is, h0, b2]⟩
    · by_cases h1 : b ≤ 4
      · have h2 : ¬ 4 < b := Int32.not_lt.mpr h1
        simp only [opQ, Co_as, e, bindV_some, if_neg h0, if_pos h1, Sh_isOfKind, at_ki5 (show c < 7 by omega), Mo_as, m1, within_is, h0, h2, inb_nI (show c < 7 by omega) (show 7 < 2147483648 by decide), ix_nI (show c < 2147483648 by omega), d3]
        by_cases q0 : b = 0 <;> by_cases q1 : gA σ 94 c = b <;> by_cases q2 : b = 1 <;> by_cases q3 : gA σ 94 c = 4 <;> simp [q0, q1, q2, q3, b2, bindV_some] <;> (try simp_all) <;> rfl
      · have h2 : 4 < b := Int32.not_le.mp h1
        exact ⟨-102, by rw [Co_as, e, bindV_some, if_pos (by decide), if_neg h0, if_neg h1], by simp [Mo_as, m1, bindV_some, within_is, h2, b2]⟩
  · exact ⟨-101, by rw [Co_as, e, bindV_some, if_neg (by decide)], by simp [Mo_as, isCase_out n2 n7 ho, bindV_some]⟩
