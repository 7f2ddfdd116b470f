/-! THE LAW'S SHIRE, written and read -/
theorem trees_all {σ s : Sg} {T N fu : Nat} (hfu : 1000 ≤ fu) (hT3 : T ≤ 3) (h : TI σ T N 0 s) (l1 l2 l3 : Int32) (kont : Int32 → Int32 → Sg → Option (Int32 × Sg)) : ∃ s', TI σ T N T s' ∧ La_shire_L35 fu 91 l1 l2 l3 kont fu 1 0 s = kont 1 (nI T) s' :=
  loop_ex (N := T) (L := fun n (s : Sg) i => La_shire_L35 fu 91 l1 l2 l3 kont n 1 i s) (kont := fun s i => kont 1 i s) (fun i s => TI σ T N i s) (fun n s i hi hI => TI_step hT3 hi hI l1 l2 l3 kont) (fun n s hI => by
    obtain ⟨⟨-, q1, -⟩, -⟩ := hI
    show La_shire_L35 fu 91 l1 l2 l3 kont (n + 1) 1 (nI T) s = _
    rw [La_shire_L35, if_pos (in0 w91), ix0, q1, if_pos (Int32.le_refl _)]) T fu s 0 (Nat.zero_add T) (by omega) h
theorem cases_all {σ s : Sg} {T N fu : Nat} (hfu : 1000 ≤ fu) (hT1 : 1 ≤ T) (hT3 : T ≤ 3) (hN7 : N ≤ 7) (h : SI σ T N 0 s) (l1 l2 l3 : Int32) (kont : Int32 → Int32 → Sg → Option (Int32 × Sg)) : ∃ s', SI σ T N N s' ∧ La_shire_L189 fu 91 l1 l2 l3 kont fu 1 0 s = kont 1 (nI N) s' :=
  loop_ex (N := N) (L := fun n (s : Sg) i => La_shire_L189 fu 91 l1 l2 l3 kont n 1 i s) (kont := fun s i => kont 1 i s) (fun i s => SI σ T N i s) (fun n s i hi hI => SI_step hT1 hT3 hN7 hi hI l1 l2 l3 kont) (fun n s hI => by
    obtain ⟨⟨-, -, q2, -⟩, -⟩ := hI
    show La_shire_L189 fu 91 l1 l2 l3 kont (n + 1) 1 (nI N) s = _
    rw [La_shire_L189, if_pos (in1 w91), ix1, q2, if_pos (Int32.le_refl _)]) N fu s 0 (Nat.zero_add N) (by omega) h
theorem SI_0 {σ s : Sg} {T N : Nat} (hT1 : 1 ≤ T) (hT3 : T ≤ 3) (h : TI σ T N T s) : SI σ T N 0 (putS s (3 * T - 1) 59) := by
  obtain ⟨⟨q0, q1, q2, q3, q4⟩, ⟨q5, q6⟩, q7, q8⟩ := h
  have eP : 3 * T - 1 + 1 = 3 * T := by omega
  have w : ∀ y, y < 3 * T - 1 → gA (putS s (3 * T - 1) 59) 3 y = gA s 3 y := fun y hy => by rw [gA_putS3, if_neg (by omega)]
  have w91 : gA (putS s (3 * T - 1) 59) 91 = gA s 91 := gA_putS (by decide)
  refine ⟨⟨q0, by rw [w91, q1], by rw [w91, q2], by rw [w91, q3], by rw [w91, q4]⟩, ⟨?_, ?_⟩, ⟨fun i hi => ?_, fun i hi => ?_, ?_⟩, fun k hk => by omega, fun k hk => by omega⟩
  · rw [gF_putS11, eP]; rfl
  · show pgOK _ (3 * T)
    have := pgOK_put (c := 59) q6 (by omega) (by omega) (by omega)
    rw [eP] at this
    exact this
  · obtain ⟨⟨b, b1, b2, b3⟩, ⟨d, d1, d2, d3⟩⟩ := q7 i hi
    exact ⟨⟨b, b1, by rw [w _ (by omega), b2], by rw [w91, b3]⟩, ⟨d, d1, by rw [w _ (by omega), d2], by rw [w91, d3]⟩⟩
  · rw [w _ (by omega)]
    exact q8 i hi
  · rw [gA_putS3, if_pos rfl]; rfl
theorem sub48n (a : Nat) : nI (48 + a) - 48 = nI a := by
  rw [show (48 : Int32) = nI 48 from rfl, pk_sub (by omega), Nat.add_sub_cancel_left]
theorem TX_of {σ s : Sg} {T N : Nat} (h : SI σ T N N s) : TX (gA s 3) T N := by
  obtain ⟨-, -, ⟨q5, q6, q7⟩, q8, q9⟩ := h
  refine ⟨fun i hi => ?_, fun k hk => ?_, ⟨q6, q9⟩, q7⟩
  · obtain ⟨⟨b, b1, b2, -⟩, ⟨d, d1, d2, -⟩⟩ := q5 i hi
    exact ⟨⟨b, b1, b2⟩, ⟨d, d1, d2⟩⟩
  · obtain ⟨⟨x, x1, x2, -⟩, ⟨a, a1, a2, a3, -⟩, ⟨b, b1, b2, b3, -⟩, ⟨hv, h1, h2, -⟩, -⟩ := q8 k hk
    refine ⟨⟨x, by omega, x2⟩, ⟨a, a1, a2, a3⟩, ⟨b, b1, b2, b3⟩, ?_⟩
    cases hv with
    | none => exact Or.inl h2
    | some h => exact Or.inr ⟨h, h1 h rfl, h2⟩
theorem La_shire_is {σ : Sg} {X Y R fu : Nat} (hfu : 1000 ≤ fu) (h11 : gF σ 1 1 = nI 0) (hR : gF σ 0 9 = nI R) (hRb : R ≤ 90) (hX : X < 2147483648) (hY : Y < 2147483648) (z : Int32) : ∃ s N T, La_shire fu σ (nI X) (nI Y) z 91 = some (1, s) ∧ Jt (R + 1) 0 s N T 0 := by
  have hlt := Nat.mod_lt X (show 3 > 0 by decide)
  have hlt2 := Nat.mod_lt Y (show 6 > 0 by decide)
  have eT : (1 : Int32) + (nI X - nI X / (3 : Int32) * (3 : Int32)) = nI (1 + X % 3) := by
    rw [show nI X - nI X / (3 : Int32) * (3 : Int32) = nI (X % 3) from pk_rem (d := 3) hX (by decide) (by decide)]
    exact nI_add 1 _
  have eN : (2 : Int32) + (nI Y - nI Y / (6 : Int32) * (6 : Int32)) = nI (2 + Y % 6) := by
    rw [show nI Y - nI Y / (6 : Int32) * (6 : Int32) = nI (Y % 6) from pk_rem (d := 6) hY (by decide) (by decide)]
    exact nI_add 2 _
  rw [La_shire, if_pos (in0 w91), ix0, eT, bindV_some, if_pos (in1 w91), ix1, eN, bindV_some, if_pos (in2 w91), ix2, bindV_some, if_pos (in3 w91), ix3, bindV_some]
  generalize hT : 1 + X % 3 = T
  generalize hN : 2 + Y % 6 = N
  have hT1 : 1 ≤ T := by omega
  have hT3 : T ≤ 3 := by omega
  have hN2 : 2 ≤ N := by omega
  have hN7 : N ≤ 7 := by omega
  generalize hs4 : sA (sA (sA (sA σ 91 0 (nI T)) 91 1 (nI N)) 91 2 0) 91 3 0 = s4
  have hTI : TI σ T N 0 s4 := by
    refine ⟨⟨by rw [← hs4]; rfl, by rw [← hs4]; rfl, by rw [← hs4]; rfl, by rw [← hs4]; rfl, by rw [← hs4]; rfl⟩, ⟨by rw [← hs4]; exact h11, ⟨by omega, fun i hi => by omega⟩⟩, fun j hj => by omega, fun j hj => by omega⟩
  obtain ⟨s5, t5, e5⟩ := trees_all (fu := fu) hfu hT3 hTI (nI X) (nI Y) z _
  refine Exists.imp (fun s => Exists.imp (fun N' => Exists.imp (fun T' => And.imp_left (fun e => e5.trans e)))) ?_
  have t5' := t5
  obtain ⟨-, ⟨p5, -⟩, -, -⟩ := t5'
  have eput : La_put s5 59 = some (1, putS s5 (3 * T - 1) 59) := La_put_S (c := 59) p5 (by omega) (by omega) (by omega)
  rw [if_neg (show ¬ (1 : Int32) = 0 by decide), eput, bindP_some, if_neg (show ¬ (1 : Int32) = 0 by decide)]
  obtain ⟨s6, t6, e6⟩ := cases_all (fu := fu) hfu hT1 hT3 hN7 (SI_0 hT1 hT3 t5) (nI X) (nI Y) z _
  refine Exists.imp (fun s => Exists.imp (fun N' => Exists.imp (fun T' => And.imp_left (fun e => e6.trans e)))) ?_
  rw [if_neg (show ¬ (1 : Int32) = 0 by decide)]
  have htx := TX_of t6
  obtain ⟨⟨q0, q1, q2, q3, q4⟩, ⟨q5, q6⟩, ⟨q7, q8, q9⟩, q10, q11⟩ := t6
  have hPJ : PJ T N = 3 * T + 5 * N - 1 := by rw [PJ, if_neg (by omega)]
  rw [hPJ] at q5 q6
  obtain ⟨s7, e7, c7⟩ := fault_ok (σ := s6) (s := s6) (P := 3 * T + 5 * N - 1) hfu rfl q5 hT1 hT3 (by omega) hN7 (by omega) htx
  have v7 := c7.1
  have g7 : gA s7 91 = gA s6 91 := vw_gA v7 rfl
  obtain ⟨s8, e8, ⟨⟨f1, f2, f3⟩, ⟨f4, f5, f6⟩, f7, f8, f9⟩, fT, fS⟩ := shire_ok (σ := s6) (s := s7) (P := 3 * T + 5 * N - 1) (R := R) hfu v7 q5 (q0.trans hR) hT1 hT3 hN2 hN7 (by omega) q6 htx
  have earith : (3 : Int32) * nI T + (5 : Int32) * nI N - 1 = nI (3 * T + 5 * N - 1) := by
    rw [show (3 : Int32) * nI T = nI (3 * T) from nI_mul 3 T, show (5 : Int32) * nI N = nI (5 * N) from nI_mul 5 N, nI_add, show (1 : Int32) = nI 1 from rfl, pk_sub (by omega)]
  rw [Co_fault, e7, bindP_some, bindP_some, if_pos (in0 w91), if_pos (in1 w91), g7, q1, q2, earith, if_neg (fun z => z rfl), e8, bindP_some, if_pos (in1 w91), f9, q2, if_neg (fun z => z rfl)]
  -- the values of the row
  have kT : ∀ t, t < T → trB (gA s6 3) t = gA s6 91 (4 + t) ∧ trD (gA s6 3) t = gA s6 91 (7 + t) := by
    intro t ht
    obtain ⟨⟨b, b1, b2, b3⟩, ⟨d, d1, d2, d3⟩⟩ := q7 t ht
    exact ⟨by rw [trB, b2, sub48n, b3], by rw [trD, d2, sub48n, d3]⟩
  have kS : ∀ k, k < N → csK (gA s6 3) T k = gA s6 91 (10 + 5 * k) ∧ csN (gA s6 3) T k = gA s6 91 (11 + 5 * k) ∧ csW (gA s6 3) T k = gA s6 91 (12 + 5 * k) ∧ csH (gA s6 3) T k = gA s6 91 (13 + 5 * k) := by
    intro k hk
    obtain ⟨⟨x, x1, x2, x3⟩, ⟨a, a1, a2, a3, a4⟩, ⟨b, b1, b2, b3, b4⟩, ⟨hv, h1, h2, h3⟩, h4⟩ := q10 k hk
    refine ⟨by rw [csK, x2, (klet_ok x x1).2.2.2, x3], by rw [csN, a3, sub48n, a4], by rw [csW, b3, sub48n, b4], ?_⟩
    rw [csH, h2, h3]
    cases hv with
    | none => exact if_pos rfl
    | some h =>
      have hk2 := h1 h rfl
      show (if nI (48 + h) = 45 then -1 else nI (48 + h) - 48) = nI h
      rw [if_neg (fun z => by have := (nI_eq (b := 45) (by omega) (by omega)).mp z; omega), sub48n]
  have e17 : ∀ k, k < N → gA s8 17 k = haW (gA s6 91) k := fun k hk => ((fS k hk).2.1).trans (kS k hk).2.2.2
  refine ⟨s8, N, T, rfl, ?_, ?_, ⟨0, f4, ?_, Nat.le_refl 0⟩, ⟨0, f5, ?_, Nat.le_refl 0⟩, f7⟩
  · rw [f9]
    refine ⟨⟨f1, f2, f3⟩, f6, ⟨R + 1, f7, by omega, by omega⟩, f8, fun t ht => ?_, fun k hk => ?_⟩
    · exact ⟨(fT t ht).1.trans (kT t ht).1, (fT t ht).2.trans (kT t ht).2⟩
    · obtain ⟨⟨y1, y2, y3⟩, y4, y5, y6⟩ := fS k hk
      obtain ⟨z1, z2, z3, z4⟩ := kS k hk
      exact ⟨y1.trans z1, y2.trans z2, y3.trans z3, y4.trans z4, y5.trans (strS_cong e17 k), y6.trans (allS_cong e17 k hk)⟩
  · rw [f9]
    refine ⟨⟨q1, q2, hT1, hT3, hN2, hN7, Nat.two_pow_pos N⟩, fun t ht => ?_, fun k hk => ?_⟩
    · obtain ⟨⟨b, b1, b2, b3⟩, ⟨d, d1, d2, d3⟩⟩ := q7 t ht
      exact ⟨⟨b, b3, by omega⟩, ⟨d, d3, d1⟩⟩
    · obtain ⟨⟨x, x1, x2, x3⟩, ⟨a, a1, a2, a3, a4⟩, ⟨b, b1, b2, b3, b4⟩, ⟨hv, h1, h2, h3⟩, h4⟩ := q10 k hk
      refine ⟨⟨x, x3, by omega⟩, ⟨a, a4, a1, a2⟩, ⟨b, b4, b2⟩, ?_, ?_⟩
      · cases hv with
        | none => exact Or.inl h3
        | some h => exact Or.inr ⟨h, h1 h rfl, h3⟩
      · rw [Nat.zero_testBit]
        exact h4
  · rw [f9]; exact q3
  · rw [f9]; exact q4
