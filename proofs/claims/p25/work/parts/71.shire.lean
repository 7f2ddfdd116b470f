/-! THE CLASS'S SHIRE out of a right text -/
theorem fig1 : ∀ b, b < 10 → 1 ≤ b → fig (nI (48 + b)) 1 9 = true := by decide +kernel
theorem figk : ∀ k, k < 8 → ∀ h, h < k → fig (nI (48 + h)) 0 (nI k - 1) = true := by decide +kernel
theorem caseOK_of {pg : Nat → Int32} {T N : Nat} (hN7 : N ≤ 7) (h : TXc pg T N) (j : Nat) (hj : j < N) : caseOK pg (3 * T + 5 * j) j := by
  obtain ⟨⟨x, x1, x2⟩, ⟨a, a1, a2, a3⟩, ⟨b, b1, b2, b3⟩, hh⟩ := h j hj
  obtain ⟨k1, k2, -, -⟩ := klet_ok x (by omega)
  refine ⟨?_, ?_, ?_, ?_⟩
  · rw [kdB, x2]; exact k1
  · rw [a3]; exact fig1 a (by omega) a1
  · rw [b3]; exact fig1 b (by omega) b1
  · rcases hh with e | ⟨h, q1, e⟩
    · rw [e]; rfl
    · rw [e, figk j (by omega) h q1, Bool.or_true]
theorem whole_ok {σ s : Sg} {P T N fu : Nat} (hfu : 1000 ≤ fu) (v : vw s = vw σ) (hP : gF σ 1 1 = nI P) (hT1 : 1 ≤ T) (hT3 : T ≤ 3) (hN1 : 2 ≤ N) (hN7 : N ≤ 7) (hPe : P + 1 = 3 * T + 5 * N) (h : TX (gA σ 3) T N) : ∃ s', Rd_isWholeShire fu s = some (1, s') ∧ CS σ s' 7 T N := by
  obtain ⟨s', e, c⟩ := fault_ok hfu v hP hT1 hT3 (by omega) hN7 hPe h
  refine ⟨s', ?_, c⟩
  have e7 : gF s' 4 1 = 7 := c.2.1
  rw [Rd_isWholeShire, e, bindP_some, Pg_size, bindV_some, vw_gF c.1 (by rfl), hP, if_neg (not_not_intro rfl), if_neg (not_not_intro e7), c.2.2.2, if_neg (fun z => by have := (nI_ltI (b := 2) (by omega) (by omega)).mp z; omega)]
theorem shire_ok {σ s : Sg} {P T N R fu : Nat} (hfu : 1000 ≤ fu) (v : vw s = vw σ) (hP : gF σ 1 1 = nI P) (hR : gF σ 0 9 = nI R) (hT1 : 1 ≤ T) (hT3 : T ≤ 3) (hN1 : 2 ≤ N) (hN7 : N ≤ 7) (hPe : P + 1 = 3 * T + 5 * N) (hpg : pgOK (gA σ 3) P) (h : TX (gA σ 3) T N) : ∃ s', Co_shire fu s = some (nI N, s') ∧ ((gF s' 5 1 = nI N ∧ gF s' 5 0 = nI T ∧ gF s' 5 11 = nI 0) ∧ (gF s' 5 12 = nI 0 ∧ gF s' 5 13 = nI 0 ∧ gF s' 22 3 = nI 0) ∧ gF s' 0 9 = nI (R + 1) ∧ gF s' 1 1 = nI 0 ∧ gA s' 91 = gA σ 91) ∧ (∀ t, t < T → gA s' 7 t = trB (gA σ 3) t ∧ gA s' 9 t = trD (gA σ 3) t) ∧ ∀ k, k < N → (gA s' 11 k = csK (gA σ 3) T k ∧ gA s' 13 k = csN (gA σ 3) T k ∧ gA s' 15 k = csW (gA σ 3) T k) ∧ gA s' 17 k = csH (gA σ 3) T k ∧ gA s' 19 k = strS (gA s' 17) N k ∧ gA s' 21 k = allS (gA s' 17) N k := by
  obtain ⟨s1, e1, c⟩ := whole_ok hfu v hP hT1 hT3 hN1 hN7 hPe h
  have v1 := c.1
  have a3 : gA s1 3 = gA σ 3 := vw_gA v1 (by rfl)
  obtain ⟨s3, er, ⟨mv, ⟨f0, f1, f2, f3, f4, f5⟩, ⟨a7, a9⟩, ⟨a11, a13, a15, a17⟩, ab⟩⟩ := readInto_is (s1 := s1) (P := P) (t := T) (k := N) hfu (by rw [a3]; exact hpg) c.2.2.1 c.2.2.2 hT3 hN7 hPe (by rw [a3]; exact caseOK_of hN7 h.2.1)
  rw [a3] at a7 a9 a11 a13 a15 a17
  generalize hσ1 : sF (sF (sF s3 1 1 (0 : Int32)) 0 8 (0 : Int32)) 0 9 (nI (R + 1)) = σ1
  have g0 : ∀ a, gA σ1 a = gA s3 a := fun a => by rw [← hσ1]; rfl
  have gk : ∀ a b, ¬ (a = 0 ∧ b = 9) → ¬ (a = 0 ∧ b = 8) → ¬ (a = 1 ∧ b = 1) → gF σ1 a b = gF s3 a b := fun a b q1 q2 q3 => by rw [← hσ1, gF_sF, if_neg q1, gF_sF, if_neg q2, gF_sF, if_neg q3]
  have e9 : gF (sF (sF s3 1 1 (0 : Int32)) 0 8 (0 : Int32)) 0 9 = nI R := by
    rw [gF_sF, if_neg (by decide), gF_sF, if_neg (by decide), mk_gF mv (by rfl), vw_gF v1 (by rfl)]
    exact hR
  have e51 : gF σ1 5 1 = nI N := by rw [gk 5 1 (by decide) (by decide) (by decide)]; exact f1
  refine ⟨σ1, ?_, ⟨⟨e51, ?_, ?_⟩, ⟨?_, ?_, ?_⟩, ?_, ?_, ?_⟩, fun t ht => ⟨?_, ?_⟩, fun k hk => ⟨⟨?_, ?_, ?_⟩, ?_, ?_, ?_⟩⟩
  · rw [Co_shire, e1, bindP_some, if_pos (by decide), er, bindV_some, Pg_clear, bindV_some, e9, nI_1, hσ1, Sh_suits, bindV_some, e51]
  · rw [gk 5 0 (by decide) (by decide) (by decide)]; exact f0
  · rw [gk 5 11 (by decide) (by decide) (by decide)]; exact f2
  · rw [gk 5 12 (by decide) (by decide) (by decide)]; exact f3
  · rw [gk 5 13 (by decide) (by decide) (by decide)]; exact f4
  · rw [gk 22 3 (by decide) (by decide) (by decide)]; exact f5
  · rw [← hσ1]; rfl
  · rw [← hσ1]; rfl
  · rw [g0, mk_gA mv (by rfl), vw_gA v1 (by rfl)]
  · rw [g0, a7, up, if_pos ht]
  · rw [g0, a9, up, if_pos ht]
  · rw [g0, a11, up, if_pos hk]
  · rw [g0, a13, up, if_pos hk]
  · rw [g0, a15, up, if_pos hk]
  · rw [g0, a17, up, if_pos hk]
  · rw [g0, g0]; exact (ab k hk).1
  · rw [g0, g0]; exact (ab k hk).2
/-! a letter put -/
theorem La_put_is {s : Sg} {P c : Nat} (hP : gF s 1 1 = nI P) (h46 : P < 46) (h1 : 32 ≤ c) (h2 : c ≤ 126) : La_put s (nI c) = some (1, sF (sA s 3 P (nI c)) 1 1 (nI (P + 1))) := by
  have l1 : ¬ nI c < 32 := fun z => by have := (nI_ltI (b := 32) (by omega) (by omega)).mp z; omega
  have l2 : nI c ≤ 126 := (nI_leI (b := 126) (by omega) (by omega)).mpr h2
  have l3 : nI P < 46 := (nI_ltI (b := 46) (by omega) (by omega)).mpr h46
  have eP : gF (sA s 3 P (nI c)) 1 1 = nI P := hP
  rw [La_put, Co_letter, if_neg l1, if_pos l2, Pg_size, bindV_some, hP, if_pos l3, Pg_add, hP, Rw_put_in (n := 46) rfl h46 (by decide), bindV_some, bindV_some, Pg_size, bindV_some, eP, nI_1, bindP_some, gF_sF, if_pos (And.intro rfl rfl), if_neg (nI_nle (by omega) (by omega))]
