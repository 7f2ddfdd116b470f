/-! THE SHIRE READ IN: the call -/
theorem whole_is {σ σm : Sg} {P fu : Nat} (hP : gF σ 1 1 = nI P) (h46 : P ≤ 46) (h : Out σ σm P (Rd_firstFault fu σ) (Mo_read fu σm)) :
    (∃ s1 s2 r, Rd_isWholeShire fu σ = some (0, s1) ∧ Mo_read fu σm = some (r, s2) ∧ vw s1 = vw σ ∧ vw s2 = vw σm ∧ gF s2 91 19 = 0) ∨
    (∃ s1 s2 r t k, Rd_isWholeShire fu σ = some (1, s1) ∧ Mo_read fu σm = some (r, s2) ∧ vw s1 = vw σ ∧ CS σ s1 7 t k ∧ 2 ≤ k ∧ k ≤ 7 ∧ 1 ≤ t ∧ t ≤ 3 ∧ MS σm s2 t k 1 ∧ P + 1 = 3 * t + 5 * k ∧ (∀ i, i < t → treeOK (gA σ 3) (3 * i)) ∧ ∀ j, j < k → caseOK (gA σ 3) (3 * t + 5 * j) j) := by
  obtain ⟨r, s1, s2, hr, e1, e2, v1, v2, -, h⟩ := h
  have top : Rd_isWholeShire fu σ = if ¬ nI r = nI P then (some ((0 : Int32), s1)) else (if ¬ (gF s1 4 1) = (7 : Int32) then (some ((0 : Int32), s1)) else (if (gF s1 4 3) < (2 : Int32) then (some ((0 : Int32), s1)) else (some ((1 : Int32), s1)))) := by
    rw [Rd_isWholeShire, e1, bindP_some, Pg_size, bindV_some, vw_gF v1 (by rfl), hP]
  rcases h with ⟨f19, hno⟩ | ⟨t, k, hrP, c, k2, k7, t1, t3, ms, hPe, hT, hK⟩
  · refine Or.inl ⟨s1, s2, nI r, ?_, e2, v1, v2, f19⟩
    rw [top]
    by_cases q : r = P
    · rw [if_neg (fun z => z (by rw [q]))]
      rcases hno q with z | z
      · rw [if_pos z]
      · by_cases z2 : gF s1 4 1 = 7
        · rw [if_neg (fun w => w z2), if_pos z]
        · rw [if_pos z2]
    · rw [if_pos (fun z => q ((nI_inj (by omega) (by omega)).mp z))]
  · refine Or.inr ⟨s1, s2, nI r, t, k, ?_, e2, v1, c, k2, k7, t1, t3, ms, hPe, hT, hK⟩
    rw [top, if_neg (fun z => z (by rw [hrP])), if_neg (fun z => z c.2.1), c.2.2.2, if_neg (fun z => by have := (nI_ltI (b := 2) (by omega) (by omega)).mp z; omega)]
theorem rng_up {f g : Nat → Int32} {n m hi : Nat} (hf : ∀ i, i < n → ∃ b, f i = nI b ∧ b ≤ hi) (hg : rng g m hi) : rng (up n f g) m hi := by
  intro i him
  by_cases q : i < n
  · obtain ⟨b, b1, b2⟩ := hf i q
    exact ⟨b, by rw [up, if_pos q, b1], b2⟩
  · obtain ⟨b, b1, b2⟩ := hg i him
    exact ⟨b, by rw [up, if_neg q, b1], b2⟩
theorem tree_vals {pg : Nat → Int32} {P i : Nat} (hpg : pgOK pg P) (hp : 3 * i + 1 < P) (h : treeOK pg (3 * i)) : (∃ b, trB pg i = nI b ∧ b ≤ 9) ∧ ∃ b, trD pg i = nI b ∧ b ≤ 9 := by
  obtain ⟨h1, h2⟩ := h
  obtain ⟨c, c1, c2, c3⟩ := hpg.2 (3 * i) (by omega)
  obtain ⟨d, d1, d2, d3⟩ := hpg.2 (3 * i + 1) hp
  rw [c1] at h1
  rw [d1] at h2
  obtain ⟨u1, u2⟩ := fig_val0 c (by omega) h1
  obtain ⟨w1, w2⟩ := fig_val0 d (by omega) h2
  exact ⟨⟨c - 48, by rw [trB, c1, sub48 u1], u2⟩, ⟨d - 48, by rw [trD, d1, sub48 w1], w2⟩⟩
theorem case_vals {pg : Nat → Int32} {P t i : Nat} (hpg : pgOK pg P) (hp : 3 * t + 5 * i + 3 < P) (h : caseOK pg (3 * t + 5 * i) i) : (∃ b, csK pg t i = nI b ∧ b ≤ 4) ∧ (∃ b, csN pg t i = nI b ∧ b ≤ 9) ∧ ∃ b, csW pg t i = nI b ∧ b ≤ 9 := by
  obtain ⟨h0, h1, h2, -⟩ := h
  obtain ⟨b, b1, b2, b3⟩ := hpg.2 (3 * t + 5 * i) (by omega)
  obtain ⟨c, c1, c2, c3⟩ := hpg.2 (3 * t + 5 * i + 1) (by omega)
  obtain ⟨d, d1, d2, d3⟩ := hpg.2 (3 * t + 5 * i + 2) (by omega)
  rw [b1] at h0
  rw [c1] at h1
  rw [d1] at h2
  have hk := kd_val b (by omega) h0
  rw [List.any_eq_true] at hk
  obtain ⟨q, q1, q2⟩ := hk
  obtain ⟨u1, u2⟩ := fig_val1 c (by omega) h1
  obtain ⟨w1, w2⟩ := fig_val1 d (by omega) h2
  exact ⟨⟨q, by rw [csK, b1]; exact eq_of_beq q2, by have := List.mem_range.mp q1; omega⟩, ⟨c - 48, by rw [csN, c1, sub48 u1], u2⟩, ⟨d - 48, by rw [csW, d1, sub48 w1], w2⟩⟩
theorem op_shire {tt fu : Nat} (hfu : 1000 ≤ fu) {σ : Sg} (h : Inv tt σ) : opP tt (Co_shire fu σ) (fun s => Mo_shire fu s) := by
  have hI : Inv (tt + 1) σ := h.mono (by omega)
  obtain ⟨N, T, R, i1, i2, i3, i4, ⟨⟨P, p1, p2, p3, p4⟩, p5⟩, i6, i7⟩ := h
  have hpg : pgOK (gA σ 3) P := ⟨p3, p4⟩
  rcases whole_is (fu := fu) p1 p3 (read_joint (σm := σ) hfu p1 p2 hpg p5) with ⟨s1, s2, r, e1, e2, v1, v2, f19⟩ | ⟨s1, s2, r, t, k, e1, -, v1, c, k2, k7, t1, t3, -, hPe, hT, hK⟩
  · rcases whole_is (fu := fu) p1 p3 (read_joint (σm := s1) hfu p1 (by rw [vw_gF v1 (by rfl)]; exact p2) hpg (by rw [vw_gA v1 (by rfl)]; exact p5)) with ⟨s1', s2', r', e1', e2', v1', v2', f19'⟩ | ⟨s1', s2', r', t, k, e1', -⟩
    · refine ⟨-103, s1, s2', by rw [Co_shire, e1, bindP_some, if_neg (by decide)], ?_, hI.of_vw (v2'.trans v1)⟩
      show Mo_shire fu s1 = _
      rw [Mo_shire, e2', bindP_some, f19', if_neg (by decide)]
    · rw [e1] at e1'
      exact absurd (Prod.mk.inj (Option.some.inj e1')).1 (by decide)
  · have a3 : gA s1 3 = gA σ 3 := vw_gA v1 (by rfl)
    obtain ⟨s3, er, ⟨mv, ⟨f0, f1, f2, f3, f4, f5⟩, ⟨a7, a9⟩, ⟨a11, a13, a15, a17⟩, ab⟩⟩ := readInto_is (s1 := s1) (P := P) (t := t) (k := k) hfu (by rw [a3]; exact hpg) c.2.2.1 c.2.2.2 t3 k7 hPe (by rw [a3]; exact hK)
    rw [a3] at a7 a9 a11 a13 a15 a17
    obtain ⟨n1, n2, t1', t2, n7, t3', r1, r2, r3, r4, r5⟩ := i1
    -- the class's state behind the call
    generalize hσ1 : sF (sF (sF s3 1 1 (0 : Int32)) 0 8 (0 : Int32)) 0 9 (nI (R + 1)) = σ1
    have g0 : ∀ a, gA σ1 a = gA s3 a := fun a => by rw [← hσ1]; rfl
    have gk : ∀ a b, ¬ (a = 0 ∧ b = 9) → ¬ (a = 0 ∧ b = 8) → ¬ (a = 1 ∧ b = 1) → gF σ1 a b = gF s3 a b := fun a b q1 q2 q3 => by rw [← hσ1, gF_sF, if_neg q1, gF_sF, if_neg q2, gF_sF, if_neg q3]
    have o1 : ∀ a b, relF a b = true → pFc a b = true → ¬ (a = 0 ∧ b = 9) → ¬ (a = 0 ∧ b = 8) → ¬ (a = 1 ∧ b = 1) → gF σ1 a b = gF σ a b := fun a b q q' q1 q2 q3 => by rw [gk a b q1 q2 q3, mk_gF mv q', vw_gF v1 q]
    have o2 : ∀ a, relA a = true → pAc a = true → gA σ1 a = gA σ a := fun a q q' => by rw [g0, mk_gA mv q', vw_gA v1 q]
    have eC : Co_shire fu σ = some (nI k, σ1) := by
      have e9 : gF (sF (sF s3 1 1 (0 : Int32)) 0 8 (0 : Int32)) 0 9 = nI R := by
        rw [gF_sF, if_neg (by decide), gF_sF, if_neg (by decide), mk_gF mv (by rfl), vw_gF v1 (by rfl)]
        exact r1
      have e51 : gF σ1 5 1 = nI k := by rw [gk 5 1 (by decide) (by decide) (by decide)]; exact f1
      rw [Co_shire, e1, bindP_some, if_pos (by decide), er, bindV_some, Pg_clear, bindV_some, e9, nI_1, hσ1, Sh_suits, bindV_some, e51]
    rcases whole_is (fu := fu) p1 p3 (read_joint (σm := σ1) hfu p1 (by rw [o1 91 17 (by rfl) (by rfl) (by decide) (by decide) (by decide)]; exact p2) hpg (by rw [o2 101 (by rfl) (by rfl)]; exact p5)) with ⟨s1', s2', r', e1', -⟩ | ⟨s1', s2', r', t', k', e1', e2', v1', c', -, -, -, -, ⟨mv2, ml2, m20, m21, m19⟩, -⟩
    · rw [e1] at e1'
      exact absurd (Prod.mk.inj (Option.some.inj e1')).1 (by decide)
    · rw [e1] at e1'
      have es := (Prod.mk.inj (Option.some.inj e1')).2
      rw [← es] at c'
      have et : nI t' = nI t := by rw [← c'.2.2.1, c.2.2.1]
      have ek : nI k' = nI k := by rw [← c'.2.2.2, c.2.2.2]
      rw [et] at m20
      rw [ek] at m21
      generalize hs0 : sF (sF s2' 91 1 (nI t)) 91 2 (nI k) = s0
      have z1 : gF s0 91 1 = nI t := by rw [← hs0]; rfl
      have z2 : gF s0 91 2 = nI k := by rw [← hs0]; rfl
      have y1 : ∀ a, relA a = true → gA s0 a = gA σ1 a := fun a q => by rw [← hs0, gA_sF1, gA_sF1, vw_gA mv2 q]
      have y2 : ∀ a b, relF a b = true → ¬ (a = 91 ∧ b = 1) → ¬ (a = 91 ∧ b = 2) → gF s0 a b = gF σ1 a b := fun a b q q1 q2 => by rw [← hs0, gF_sF, if_neg q2, gF_sF, if_neg q1, vw_gF mv2 q]
      obtain ⟨s11, e11, fF, fA, ⟨b92, b93⟩, ⟨b94, b95, b96, b97⟩⟩ := shireM_is (s0 := s0) (P := P) (t := t) (k := k) hfu p3 z1 z2 t3 k7 hPe (fun l1_10 s11 => some (gF (sF (sF (sF (sF (sF (sF s11 91 9 (0 : Int32)) 91 10 (0 : Int32)) 91 11 (0 : Int32)) 91 0 ((gF (sF (sF (sF s11 91 9 (0 : Int32)) 91 10 (0 : Int32)) 91 11 (0 : Int32)) 91 0) + (1 : Int32))) 91 13 (0 : Int32)) 91 17 (0 : Int32)) 91 2, (sF (sF (sF (sF (sF (sF s11 91 9 (0 : Int32)) 91 10 (0 : Int32)) 91 11 (0 : Int32)) 91 0 ((gF (sF (sF (sF s11 91 9 (0 : Int32)) 91 10 (0 : Int32)) 91 11 (0 : Int32)) 91 0) + (1 : Int32))) 91 13 (0 : Int32)) 91 17 (0 : Int32))))
      rw [y1 101 (by rfl), o2 101 (by rfl) (by rfl), ← p5] at b92 b93 b94 b95 b96 b97
      rw [y1 92 (by rfl), o2 92 (by rfl) (by rfl)] at b92
      rw [y1 93 (by rfl), o2 93 (by rfl) (by rfl)] at b93
      rw [y1 94 (by rfl), o2 94 (by rfl) (by rfl)] at b94
      rw [y1 95 (by rfl), o2 95 (by rfl) (by rfl)] at b95
      rw [y1 96 (by rfl), o2 96 (by rfl) (by rfl)] at b96
      rw [y1 97 (by rfl), o2 97 (by rfl) (by rfl)] at b97
      have f90 : gF s11 91 0 = nI R := by rw [fF, y2 91 0 (by rfl) (by decide) (by decide), o1 91 0 (by rfl) (by rfl) (by decide) (by decide) (by decide)]; exact r2
      have f92 : gF s11 91 2 = nI k := by rw [fF]; exact z2
      have e90 : gF (sF (sF (sF s11 91 9 (0 : Int32)) 91 10 (0 : Int32)) 91 11 (0 : Int32)) 91 0 + (1 : Int32) = nI (R + 1) := by
        rw [gF_sF, if_neg (by decide), gF_sF, if_neg (by decide), gF_sF, if_neg (by decide), f90, nI_1]
      have e92 : gF (sF (sF (sF (sF (sF (sF s11 91 9 (0 : Int32)) 91 10 (0 : Int32)) 91 11 (0 : Int32)) 91 0 (nI (R + 1))) 91 13 (0 : Int32)) 91 17 (0 : Int32)) 91 2 = nI k := by
        rw [gF_sF, if_neg (by decide), gF_sF, if_neg (by decide), gF_sF, if_neg (by decide), gF_sF, if_neg (by decide), gF_sF, if_neg (by decide), gF_sF, if_neg (by decide), f92]
      rw [e90, e92] at e11
      generalize hσ2 : sF (sF (sF (sF (sF (sF s11 91 9 (0 : Int32)) 91 10 (0 : Int32)) 91 11 (0 : Int32)) 91 0 (nI (R + 1))) 91 13 (0 : Int32)) 91 17 (0 : Int32) = σ2 at e11
      have w1 : ∀ a, gA σ2 a = gA s11 a := fun a => by rw [← hσ2]; rfl
      have w2 : ∀ a b, relF a b = true → (a = 91 → b ≠ 1 ∧ b ≠ 2 ∧ b ≠ 9 ∧ b ≠ 10 ∧ b ≠ 11 ∧ b ≠ 0 ∧ b ≠ 13 ∧ b ≠ 17) → gF σ2 a b = gF σ1 a b := fun a b q qq => by
        have nn : ∀ n, (n = 1 ∨ n = 2 ∨ n = 9 ∨ n = 10 ∨ n = 11 ∨ n = 0 ∨ n = 13 ∨ n = 17) → ¬ (a = 91 ∧ b = n) := fun n hn z => by
          obtain ⟨x1, x2, x3, x4, x5, x6, x7, x8⟩ := qq z.1
          rcases hn with hn | hn | hn | hn | hn | hn | hn | hn <;> simp_all
        rw [← hσ2, gF_sF, if_neg (nn 17 (by simp)), gF_sF, if_neg (nn 13 (by simp)), gF_sF, if_neg (nn 0 (by simp)), gF_sF, if_neg (nn 11 (by simp)), gF_sF, if_neg (nn 10 (by simp)), gF_sF, if_neg (nn 9 (by simp)), fF, y2 a b q (nn 1 (by simp)) (nn 2 (by simp))]
      have w3 : ∀ a, relA a = true → (a < 92 ∨ 97 < a) → gA σ2 a = gA σ1 a := fun a q q' => by rw [w1, fA a q', y1 a q]
      refine ⟨nI k, σ1, σ2, eC, ?_, ?_⟩
      · show Mo_shire fu σ1 = _
        rw [Mo_shire, e2', bindP_some, m19, if_pos (by decide), m20, gF_sF, if_neg (by decide), m21, hs0]
        exact e11
      · obtain ⟨⟨d1, d2, d3, d4, d5, d6⟩, ⟨q1, q2, q3, q4, q5, q6⟩, d7⟩ := i2
        have A7 : gA σ2 7 = up t (trB (gA σ 3)) (gA σ 7) := by rw [w3 7 (by rfl) (by decide), g0, a7, vw_gA v1 (by rfl)]
        have A9 : gA σ2 9 = up t (trD (gA σ 3)) (gA σ 9) := by rw [w3 9 (by rfl) (by decide), g0, a9, vw_gA v1 (by rfl)]
        have A11 : gA σ2 11 = up k (csK (gA σ 3) t) (gA σ 11) := by rw [w3 11 (by rfl) (by decide), g0, a11, vw_gA v1 (by rfl)]
        have A13 : gA σ2 13 = up k (csN (gA σ 3) t) (gA σ 13) := by rw [w3 13 (by rfl) (by decide), g0, a13, vw_gA v1 (by rfl)]
        have A15 : gA σ2 15 = up k (csW (gA σ 3) t) (gA σ 15) := by rw [w3 15 (by rfl) (by decide), g0, a15, vw_gA v1 (by rfl)]
        have A17 : gA σ2 17 = up k (csH (gA σ 3) t) (gA σ 17) := by rw [w3 17 (by rfl) (by decide), g0, a17, vw_gA v1 (by rfl)]
        have hTv : ∀ i, i < t → (∃ b, trB (gA σ 3) i = nI b ∧ b ≤ 9) ∧ ∃ b, trD (gA σ 3) i = nI b ∧ b ≤ 9 := fun i hi => tree_vals hpg (by omega) (hT i hi)
        have hCv : ∀ i, i < k → (∃ b, csK (gA σ 3) t i = nI b ∧ b ≤ 4) ∧ (∃ b, csN (gA σ 3) t i = nI b ∧ b ≤ 9) ∧ ∃ b, csW (gA σ 3) t i = nI b ∧ b ≤ 9 := fun i hi => case_vals hpg (by omega) (hK i hi)
        obtain ⟨⟨S, s1', s2'', s3'⟩, s4, s5, s6⟩ := i4
        refine ⟨k, t, R + 1, ⟨?_, ?_, ?_, ?_, k7, t3, ?_, ?_, by omega, fun z => absurd z (by omega), fun _ => ⟨k2, t1⟩⟩, ⟨⟨?_, ?_, ?_, ?_, ?_, ?_⟩, ⟨?_, ?_, ?_, ?_, ?_, ?_⟩, ?_⟩, ⟨⟨0, ?_, ?_, Nat.two_pow_pos k⟩, ⟨0, ?_, ?_, by omega⟩, ⟨0, ?_, ?_, by omega⟩⟩, ⟨⟨0, ?_, ?_, by omega⟩, ?_, ?_, ?_⟩, ⟨⟨0, ?_, ?_, by omega, fun i hi => absurd hi (by omega)⟩, ?_⟩, ?_, ?_⟩
        · rw [w2 5 1 (by rfl) (by decide), gk 5 1 (by decide) (by decide) (by decide)]; exact f1
        · rw [← hσ2, gF_sF, if_neg (by decide), gF_sF, if_neg (by decide), gF_sF, if_neg (by decide), gF_sF, if_neg (by decide), gF_sF, if_neg (by decide), gF_sF, if_neg (by decide)]; exact f92
        · rw [w2 5 0 (by rfl) (by decide), gk 5 0 (by decide) (by decide) (by decide)]; exact f0
        · rw [← hσ2, gF_sF, if_neg (by decide), gF_sF, if_neg (by decide), gF_sF, if_neg (by decide), gF_sF, if_neg (by decide), gF_sF, if_neg (by decide), gF_sF, if_neg (by decide), fF]; exact z1
        · rw [w2 0 9 (by rfl) (by decide), ← hσ1, gF_sF, if_pos (And.intro rfl rfl)]
        · rw [← hσ2, gF_sF, if_neg (by decide), gF_sF, if_neg (by decide), gF_sF, if_pos (And.intro rfl rfl)]
        · rw [A7, w1, b92, d1]
        · rw [A9, w1, b93, d2]
        · rw [A11, w1, b94, d3]
        · rw [A13, w1, b95, d4]
        · rw [A15, w1, b96, d5]
        · rw [A17, w1, b97, d6]
        · rw [A7]; exact rng_up (fun i hi => by obtain ⟨b, x1, x2⟩ := (hTv i hi).1; exact ⟨b, x1, by omega⟩) q1
        · rw [A9]; exact rng_up (fun i hi => (hTv i hi).2) q2
        · rw [A11]; exact rng_up (fun i hi => (hCv i hi).1) q3
        · rw [A13]; exact rng_up (fun i hi => (hCv i hi).2.1) q4
        · rw [A15]; exact rng_up (fun i hi => (hCv i hi).2.2) q5
        · rw [A17]
          intro i hi
          rw [up, if_pos hi]
          exact csH_ok hpg (by omega) (by omega) (hK i hi)
        · intro x hx
          rw [w3 19 (by rfl) (by decide), w3 21 (by rfl) (by decide), w3 17 (by rfl) (by decide), g0, g0, g0]
          exact ab x hx
        · rw [w2 5 11 (by rfl) (by decide), gk 5 11 (by decide) (by decide) (by decide)]; exact f2
        · rw [← hσ2, gF_sF, if_neg (by decide), gF_sF, if_neg (by decide), gF_sF, if_neg (by decide), gF_sF, if_neg (by decide), gF_sF, if_neg (by decide), gF_sF, if_pos (And.intro rfl rfl)]; rfl
        · rw [w2 5 12 (by rfl) (by decide), gk 5 12 (by decide) (by decide) (by decide)]; exact f3
        · rw [← hσ2, gF_sF, if_neg (by decide), gF_sF, if_neg (by decide), gF_sF, if_neg (by decide), gF_sF, if_pos (And.intro rfl rfl)]; rfl
        · rw [w2 5 13 (by rfl) (by decide), gk 5 13 (by decide) (by decide) (by decide)]; exact f4
        · rw [← hσ2, gF_sF, if_neg (by decide), gF_sF, if_neg (by decide), gF_sF, if_neg (by decide), gF_sF, if_neg (by decide), gF_sF, if_pos (And.intro rfl rfl)]; rfl
        · rw [w2 22 3 (by rfl) (by decide), gk 22 3 (by decide) (by decide) (by decide)]; exact f5
        · rw [← hσ2, gF_sF, if_neg (by decide), gF_sF, if_pos (And.intro rfl rfl)]; rfl
        · rw [w3 24 (by rfl) (by decide), w3 98 (by rfl) (by decide), o2 24 (by rfl) (by rfl), o2 98 (by rfl) (by rfl)]; exact s4
        · rw [w3 26 (by rfl) (by decide), w3 99 (by rfl) (by decide), o2 26 (by rfl) (by rfl), o2 99 (by rfl) (by rfl)]; exact s5
        · rw [w3 28 (by rfl) (by decide), w3 100 (by rfl) (by decide), o2 28 (by rfl) (by rfl), o2 100 (by rfl) (by rfl)]; exact s6
        · rw [w2 1 1 (by rfl) (by decide), ← hσ1, gF_sF, if_neg (by decide), gF_sF, if_neg (by decide), gF_sF, if_pos (And.intro rfl rfl)]; rfl
        · rw [← hσ2, gF_sF, if_pos (And.intro rfl rfl)]; rfl
        · rw [w3 3 (by rfl) (by decide), w3 101 (by rfl) (by decide), o2 3 (by rfl) (by rfl), o2 101 (by rfl) (by rfl)]; exact p5
        · obtain ⟨p, x1, x2, x3⟩ := i6
          exact ⟨p, by rw [w2 0 10 (by rfl) (by decide), o1 0 10 (by rfl) (by rfl) (by decide) (by decide) (by decide)]; exact x1, by rw [w2 91 12 (by rfl) (by decide), o1 91 12 (by rfl) (by rfl) (by decide) (by decide) (by decide)]; exact x2, x3⟩
        · obtain ⟨q, x1, x2, x3⟩ := i7
          have e33 : gF σ2 91 33 = gF σ 91 33 := by rw [w2 91 33 (by rfl) (by decide), o1 91 33 (by rfl) (by rfl) (by decide) (by decide) (by decide)]
          have e32 : gF σ2 91 32 = gF σ 91 32 := by rw [w2 91 32 (by rfl) (by decide), o1 91 32 (by rfl) (by rfl) (by decide) (by decide) (by decide)]
          have e8 : gF σ2 0 8 = 0 := by rw [w2 0 8 (by rfl) (by decide), ← hσ1, gF_sF, if_neg (by decide), gF_sF, if_pos (And.intro rfl rfl)]
          refine ⟨q, by rw [e33]; exact x1, by omega, Or.inl ⟨e8, ?_⟩⟩
          rw [e32]
          rcases x3 with ⟨-, z | ⟨z, -⟩⟩ | ⟨-, z, -⟩
          · exact Or.inl z
          · exact Or.inr ⟨z, by omega⟩
          · exact Or.inr ⟨z, by omega⟩
