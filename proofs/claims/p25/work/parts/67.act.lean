/-! AN ACT -/
theorem act35 {σ : Sg} {N T m fu u X : Nat} (hr : Row (gA σ 91) N T m) (hu : u < T) (hfu : 1000 ≤ fu) (kont : Int32 → Int32 → Option (Int32 × Sg)) : ∀ d i k n, i + d = N → d < n → k < N → ∃ k' i', k' < N ∧ La_act_L35 fu 91 (nI X) (nI u) σ kont n (nI k) (nI i) = kont (nI k') i' := by
  have hr' := hr
  obtain ⟨⟨h0, h1, t1, t3, n2, n7, hm⟩, -, -⟩ := hr'
  intro d
  induction d with
  | zero =>
    intro i k n hi hn hk
    obtain ⟨n, rfl⟩ : ∃ j, n = j + 1 := ⟨n - 1, by omega⟩
    refine ⟨k, nI i, hk, ?_⟩
    rw [La_act_L35, if_pos (in1 w91), ix1, h1, if_pos ((nI_leI (by omega) (by omega)).mpr (by omega))]
  | succ d ih =>
    intro i k n hi hn hk
    obtain ⟨n, rfl⟩ : ∃ j, n = j + 1 := ⟨n - 1, by omega⟩
    rw [La_act_L35, if_pos (in1 w91), ix1, h1, if_neg (nI_ge (by omega) (by omega))]
    by_cases hz : (nI X / (512 : Int32)) - (nI X / (512 : Int32)) / (5 : Int32) * (5 : Int32) ≤ 0
    · rw [if_pos hz]
      exact ⟨k, _, hk, rfl⟩
    · rw [if_neg hz, La_may_is w91 hr hk hu hfu, bindV_some]
      cases (openS (kiW (gA σ 91)) (haW (gA σ 91)) (nI m) k && !decide (beW (gA σ 91) u < coW (gA σ 91) N k)) with
      | true =>
        rw [if_pos (by decide)]
        exact ⟨k, _, hk, rfl⟩
      | false =>
        obtain ⟨k', i', e1, e2⟩ := ih (i + 1) ((k + 1) % N) n (by omega) (by omega) (Nat.mod_lt _ (by omega))
        refine ⟨k', i', e1, ?_⟩
        rw [if_neg (by decide), if_pos (in1 w91), if_neg (nI_ne0 (by omega) (by omega)), bindV_some, nI_1, nI_1, pk_rem (by omega) (by omega) (by omega), e2]
theorem La_act_is {B t : Nat} {σ : Sg} {N T m X fu : Nat} (h : Jt B t σ N T m) (ht : t ≤ 800) (hfu : 1000 ≤ fu) (hX : X < 2147483648) : ∃ s m', La_act fu σ (nI X) 91 = some (1, s) ∧ Jt B (t + 1) s N T m' := by
  have h' := h
  obtain ⟨hc, hr, -, -⟩ := h'
  have hr' := hr
  obtain ⟨⟨h0, h1, t1, t3, n2, n7, hm⟩, hT, hS⟩ := hr'
  have hk : X / 16 % N < N := Nat.mod_lt _ (by omega)
  have hu : X / 128 % T < T := Nat.mod_lt _ (by omega)
  have d16 : X / 16 < 2147483648 := Nat.lt_of_le_of_lt (Nat.div_le_self _ _) hX
  have d128 : X / 128 < 2147483648 := Nat.lt_of_le_of_lt (Nat.div_le_self _ _) hX
  have d512 : X / 512 < 2147483648 := Nat.lt_of_le_of_lt (Nat.div_le_self _ _) hX
  have d8192 : X / 8192 < 2147483648 := Nat.lt_of_le_of_lt (Nat.div_le_self _ _) hX
  have e1 : nI X - nI X / (16 : Int32) * (16 : Int32) = nI (X % 16) := pk_rem (d := 16) hX (by decide) (by decide)
  have e2 : nI X / (16 : Int32) = nI (X / 16) := pk_div (d := 16) hX (by decide) (by decide)
  have e3 : nI X / (128 : Int32) = nI (X / 128) := pk_div (d := 128) hX (by decide) (by decide)
  have e4 : nI X / (512 : Int32) = nI (X / 512) := pk_div (d := 512) hX (by decide) (by decide)
  have e5 : nI X / (8192 : Int32) = nI (X / 8192) := pk_div (d := 8192) hX (by decide) (by decide)
  have hlt := Nat.mod_lt X (show 16 > 0 by decide)
  rw [La_act, e1, bindV_some, if_pos (in1 w91), ix1, h1, if_neg (nI_ne0 (by omega) (by omega)), e2, pk_rem d16 (by omega) (by omega), bindV_some, if_pos (in0 w91), ix0, h0, if_neg (nI_ne0 (by omega) (by omega)), e3, pk_rem d128 (by omega) (by omega), bindV_some]
  generalize hkk : X / 16 % N = k at hk
  generalize huu : X / 128 % T = u at hu
  by_cases c7 : 7 ≤ X % 16
  · rw [if_pos (show (7 : Int32) ≤ nI (X % 16) from (nI_leI (a := 7) (by omega) (by omega)).mpr c7)]
    by_cases c11 : 11 ≤ X % 16
    · rw [if_pos (show (11 : Int32) ≤ nI (X % 16) from (nI_leI (a := 11) (by omega) (by omega)).mpr c11)]
      by_cases c12 : 12 ≤ X % 16
      · rw [if_pos (show (12 : Int32) ≤ nI (X % 16) from (nI_leI (a := 12) (by omega) (by omega)).mpr c12)]
        by_cases c14 : 14 ≤ X % 16
        · rw [if_pos (show (14 : Int32) ≤ nI (X % 16) from (nI_leI (a := 14) (by omega) (by omega)).mpr c14), a14, if_pos (inW w91 (by omega)), ixW (show 14 + 5 * k < 45 by omega)]
          have g5 : gA σ 91 (14 + 5 * k) = b2 (m.testBit k) := (hS k hk).2.2.2.2
          rw [g5]
          cases hb : m.testBit k with
          | false =>
            rw [if_neg (by decide), Co_walk_no hc hr.1 hk hb, bindP_some, if_neg (by decide)]
            exact ⟨σ, m, rfl, h.mono (by omega)⟩
          | true =>
            obtain ⟨r, s, m', w1, w2, w3⟩ := act_walk h hk hfu hb
            rw [if_pos (by decide), if_pos (inW w91 (by omega)), bindV_some, w1, bindP_some, La_righted_is w91 w2.2.1 hfu, bindV_some, La_worth_is w91 w2.2.1.1 hfu, bindV_some, if_neg (fun z => z w3)]
            exact ⟨s, m', rfl, w2⟩
        · have hd := Nat.mod_lt (X / 512) (show 9 > 0 by decide)
          have hw := Nat.mod_lt (X / 8192) (show 9 > 0 by decide)
          have f1 : (1 : Int32) + (nI (X / 512) - nI (X / 512) / (9 : Int32) * (9 : Int32)) = nI (1 + X / 512 % 9) := by
            rw [show nI (X / 512) - nI (X / 512) / (9 : Int32) * (9 : Int32) = nI (X / 512 % 9) from pk_rem (d := 9) d512 (by decide) (by decide)]
            exact nI_add 1 _
          have f2 : (1 : Int32) + (nI (X / 8192) - nI (X / 8192) / (9 : Int32) * (9 : Int32)) = nI (1 + X / 8192 % 9) := by
            rw [show nI (X / 8192) - nI (X / 8192) / (9 : Int32) * (9 : Int32) = nI (X / 8192 % 9) from pk_rem (d := 9) d8192 (by decide) (by decide)]
            exact nI_add 1 _
          obtain ⟨s, w1, w2⟩ := act_plead (d := 1 + X / 512 % 9) (w := 1 + X / 8192 % 9) h hk (by omega) (by omega) (by omega) (by omega)
          rw [if_neg (show ¬ (14 : Int32) ≤ nI (X % 16) from fun z => c14 ((nI_leI (a := 14) (by omega) (by omega)).mp z)), a12, a11, if_pos (inW w91 (by omega)), bindV_some, if_pos (inW w91 (by omega)), e4, e5, f1, f2, bindV_some, if_pos (inW w91 (by omega)), bindV_some, if_pos (inW w91 (by omega)), if_pos (inW w91 (by omega)), ixW (show 11 + 5 * k < 45 by omega), ixW (show 12 + 5 * k < 45 by omega)]
          have v1 : gA (sA (sA σ 91 (11 + 5 * k) (nI (1 + X / 512 % 9))) 91 (12 + 5 * k) (nI (1 + X / 8192 % 9))) 91 (11 + 5 * k) = nI (1 + X / 512 % 9) := by
            rw [gA_sA, if_neg (by omega), gA_sA, if_pos ⟨rfl, rfl⟩]
          have v2 : gA (sA (sA σ 91 (11 + 5 * k) (nI (1 + X / 512 % 9))) 91 (12 + 5 * k) (nI (1 + X / 8192 % 9))) 91 (12 + 5 * k) = nI (1 + X / 8192 % 9) := by
            rw [gA_sA, if_pos ⟨rfl, rfl⟩]
          rw [v1, v2, w1, bindP_some, if_neg (fun z => z rfl)]
          exact ⟨s, m, rfl, w2⟩
      · have hd := Nat.mod_lt (X / 512) (show 10 > 0 by decide)
        have f1 : nI (X / 512) - nI (X / 512) / (10 : Int32) * (10 : Int32) = nI (X / 512 % 10) := pk_rem (d := 10) d512 (by decide) (by decide)
        obtain ⟨s, w1, w2⟩ := act_birds (d := X / 512 % 10) h hu (by omega)
        rw [if_neg (show ¬ (12 : Int32) ≤ nI (X % 16) from fun z => c12 ((nI_leI (a := 12) (by omega) (by omega)).mp z)), a7, if_pos (inW w91 (by omega)), bindV_some, if_pos (inW w91 (by omega)), e4, f1, bindV_some, if_pos (inW w91 (by omega)), ixW (show 7 + u < 45 by omega)]
        have v1 : gA (sA σ 91 (7 + u) (nI (X / 512 % 10))) 91 (7 + u) = nI (X / 512 % 10) := by rw [gA_sA, if_pos ⟨rfl, rfl⟩]
        rw [v1, w1, bindP_some, if_neg (fun z => z rfl)]
        exact ⟨s, m, rfl, w2⟩
    · obtain ⟨s, w1, w2⟩ := act_year h ht hfu
      rw [if_neg (show ¬ (11 : Int32) ≤ nI (X % 16) from fun z => c11 ((nI_leI (a := 11) (by omega) (by omega)).mp z)), La_year_is w91 hr.1 hfu, bindV_some, if_pos (in2 w91), if_pos (in2 w91), ix2, bindV_some, w1, bindP_some, if_pos (in2 w91), if_neg (fun z => z rfl)]
      exact ⟨s, m, rfl, w2⟩
  · rw [if_neg (show ¬ (7 : Int32) ≤ nI (X % 16) from fun z => c7 ((nI_leI (a := 7) (by omega) (by omega)).mp z))]
    obtain ⟨k', i', q1, q2⟩ := act35 (X := X) (fu := fu) hr hu hfu (fun l4_39 l6_40 => bindV (La_may fu σ 91 l4_39 (nI u)) fun r41 => if ¬ r41 = 0 then (if inb (3 : Int32) (jv_ln 91) = true then (if inb (3 : Int32) (jv_ln 91) = true then (bindV (some (sA σ 91 (ix (3 : Int32)) ((gA σ 91 (ix (3 : Int32))) + (1 : Int32)))) fun s43 => bindP (Co_right s43 l4_39 (nI u)) fun r44 s45 => bindP (La_right fu s45 91 l4_39 (nI u)) fun r46 s47 => if ¬ r44 = r46 then (some ((0 : Int32), s47)) else (some ((1 : Int32), s47))) else none) else none) else (bindP (Co_right σ l4_39 (nI u)) fun r49 s50 => if ¬ r49 = (-103 : Int32) then (some ((0 : Int32), s50)) else (some ((1 : Int32), s50)))) N 0 k fu (Nat.zero_add N) (by omega) hk
    refine Exists.imp (fun s => Exists.imp (fun m' => And.imp_left (fun e => q2.trans e))) ?_
    have hmay := La_may_is w91 hr q1 hu hfu
    rw [hmay, bindV_some]
    have hp : (openS (kiW (gA σ 91)) (haW (gA σ 91)) (nI m) k' && !decide (beW (gA σ 91) u < coW (gA σ 91) N k')) = mayW (gA σ 91) N m k' u := rfl
    rw [hp]
    cases hq : mayW (gA σ 91) N m k' u with
    | false =>
      rw [if_neg (by decide), Co_right_no hc hr q1 hu hq, bindP_some, if_neg (by decide)]
      exact ⟨σ, m, rfl, h.mono (by omega)⟩
    | true =>
      obtain ⟨r, σ1, σ2, m', w1, w2, w3⟩ := act_right_yes h q1 hu ht hfu hq
      rw [if_pos (by decide), if_pos (in3 w91), if_pos (in3 w91), ix3, bindV_some, w1, bindP_some, w2, bindP_some, if_neg (fun z => z rfl)]
      exact ⟨σ2, m', rfl, w3⟩
