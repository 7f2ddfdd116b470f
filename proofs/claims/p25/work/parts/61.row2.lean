/-! who hangs on whom -/
def HG (ha : Nat → Int32) (N : Nat) : Prop := ∀ i, i < N → ha i = -1 ∨ ∃ h, h < i ∧ ha i = nI h
theorem Row.hg {W : Nat → Int32} {N T m : Nat} (h : Row W N T m) : HG (haW W) N := fun i hi => (h.2.2 i hi).2.2.2.1
theorem hang_loop {σ : Sg} {q N k fu : Nat} {ha : Nat → Int32} (hq : jv_ln q = 45) (hN7 : N ≤ 7) (hha : ∀ i, i < N → gA σ q (13 + 5 * i) = ha i) (hg : HG ha N) (hk : k < N) : ∀ g, g < N → ∀ n, g + 1 < n → La_hangs_L9 fu q (nI k) σ (fun l3_4 => if ¬ l3_4 = nI k then (some (0 : Int32)) else (some (1 : Int32))) n (nI g) = some (b2 (decide (g = k) || bt (allS ha N k) g)) := by
  intro g
  induction g using Nat.strongRecOn with
  | ind g ih =>
    intro hgN n hn
    obtain ⟨n, rfl⟩ : ∃ j, n = j + 1 := ⟨n - 1, by omega⟩
    rw [La_hangs_L9]
    by_cases hgk : g ≤ k
    · rw [if_pos ((nI_leI (by omega) (by omega)).mpr hgk), allS_lo hN7 hk hgk]
      by_cases e : g = k
      · subst e
        rw [if_neg (fun z => z rfl)]
        simp [b2]
      · rw [if_pos (fun z => e ((nI_eq (by omega) (by omega)).mp z))]
        simp [b2, e]
    · rw [if_neg (fun z => hgk ((nI_leI (by omega) (by omega)).mp z)), a13, if_pos (inW hq (by omega)), bindV_some, ixW (by omega), hha g hgN, allS_bt hN7 (by omega) hgN (hg g hgN), show decide (g = k) = false by simp; omega, Bool.false_or]
      rcases hg g hgN with e | ⟨h, h1, e⟩
      · obtain ⟨n, rfl⟩ : ∃ j, n = j + 1 := ⟨n - 1, by omega⟩
        rw [e, La_hangs_L9, if_pos (m1_le k (by omega)), if_pos (m1_ne k (by omega)), if_neg (m1_ne k (by omega)), if_pos rfl]
        rfl
      · rw [e, ih h h1 (by omega) n (by omega), hasX_bt _ (by omega)]
        by_cases e2 : h = k
        · subst e2
          rw [if_pos rfl]
          simp [b2]
        · rw [if_neg (fun z => e2 ((nI_eq (by omega) (by omega)).mp z)), if_neg (fun z => m1_ne h (by omega) z.symm), show decide (h = k) = false by simp [e2], Bool.false_or]
theorem La_hangs_is {σ : Sg} {q N k n fu : Nat} {ha : Nat → Int32} (hq : jv_ln q = 45) (hN7 : N ≤ 7) (hha : ∀ i, i < N → gA σ q (13 + 5 * i) = ha i) (hg : HG ha N) (hk : k < n) (hn : n < N) (hfu : 1000 ≤ fu) : La_hangs fu σ q (nI n) (nI k) = some (b2 (bt (allS ha N k) n)) := by
  rw [La_hangs, a13, if_pos (inW hq (by omega)), bindV_some, ixW (by omega), hha n hn, allS_bt hN7 hk hn (hg n hn)]
  rcases hg n hn with e | ⟨h, h1, e⟩
  · obtain ⟨f, rfl⟩ : ∃ j, fu = j + 1 := ⟨fu - 1, by omega⟩
    rw [e, La_hangs_L9, if_pos (m1_le k (by omega)), if_pos (m1_ne k (by omega)), if_neg (m1_ne k (by omega)), if_pos rfl]
    rfl
  · rw [e, hang_loop hq hN7 hha hg (by omega) h (by omega) fu (by omega), hasX_bt _ (by omega)]
    by_cases e2 : h = k
    · subst e2
      rw [if_pos rfl]
      simp [b2]
    · rw [if_neg (fun z => e2 ((nI_eq (by omega) (by omega)).mp z)), if_neg (fun z => m1_ne h (by omega) z.symm), show decide (h = k) = false by simp [e2], Bool.false_or]
theorem or_loop (p : Nat → Bool) : ∀ (n s : Nat) (a : Int32) (j : Nat), s + n ≤ 31 → j < 32 → bt (fo (fun i a => a ||| (if p i = true then bitI i else 0)) n s a) j = (bt a j || (decide (s ≤ j) && decide (j < s + n) && p j))
  | 0, s, a, j, _, _ => by
    have : (decide (s ≤ j) && decide (j < s + 0)) = false := by simp
    rw [fo, this]
    simp
  | n + 1, s, a, j, hs, hj => by
    rw [fo, or_loop p n (s + 1) _ j (by omega) hj, b_or]
    by_cases e : j = s
    · subst e
      have h1 : decide (j + 1 ≤ j) = false := by simp
      have h2 : decide (j < j + (n + 1)) = true := by simp
      rw [h1, h2]
      cases p j with
      | false => simp [b_0]
      | true => simp [b_bitI (show j < 31 by omega) hj]
    · have h3 : bt (if p s = true then bitI s else 0) j = false := by
        cases p s with
        | false => simp [b_0]
        | true => simp [b_bitI (show s < 31 by omega) hj]; omega
      have h1 : decide (s + 1 ≤ j) = decide (s ≤ j) := by rw [decide_eq_decide]; omega
      have h2 : decide (j < s + 1 + n) = decide (j < s + (n + 1)) := by rw [decide_eq_decide]; omega
      rw [h3, h1, h2, Bool.or_false]
theorem allS_hi {ha : Nat → Int32} {N c j : Nat} (hN : N ≤ 7) (hc : c < N) (hj : N ≤ j) (hj2 : j < 32) : bt (allS ha N c) j = false := by
  obtain ⟨M, M1, M2, -⟩ := allS_bits ha hN hc
  rw [M1, b_nI M hj2]
  exact Nat.testBit_lt_two_pow (Nat.lt_of_lt_of_le M2 (Nat.pow_le_pow_right (by decide) hj))
theorem La_under_is {σ : Sg} {q N T m k fu : Nat} (hq : jv_ln q = 45) (h : Row (gA σ q) N T m) (hk : k < N) (hfu : 1000 ≤ fu) : La_under fu σ q (nI k) = some (allS (haW (gA σ q)) N k) := by
  have hg := h.hg
  obtain ⟨⟨h0, h1, t1, t3, n2, n7, hm⟩, -, -⟩ := h
  have pure : fo (fun i a => a ||| (if bt (allS (haW (gA σ q)) N k) i = true then bitI i else 0)) (N - (k + 1)) (k + 1) (nI 0) = allS (haW (gA σ q)) N k := by
    apply b_ext
    intro j hj
    rw [or_loop _ _ _ _ _ (by omega) hj, show nI 0 = (0 : Int32) from rfl, b_0, Bool.false_or]
    by_cases e : k + 1 ≤ j ∧ j < N
    · have h1 : decide (k + 1 ≤ j) = true := by simp; omega
      have h2 : decide (j < k + 1 + (N - (k + 1))) = true := by simp; omega
      rw [h1, h2]
      simp
    · have h3 : (decide (k + 1 ≤ j) && decide (j < k + 1 + (N - (k + 1)))) = false := by
        rw [Bool.and_eq_false_iff, decide_eq_false_iff_not, decide_eq_false_iff_not]
        omega
      rw [h3, Bool.false_and]
      by_cases e2 : j ≤ k
      · exact (allS_lo n7 hk e2).symm
      · exact (allS_hi n7 hk (by omega) hj).symm
  rw [La_under, nI_1, show (0 : Int32) = nI 0 from rfl]
  refine (loop_fo (N := N) (L := fun n acc i => La_under_L6 fu q (nI k) σ (fun l2_5 l3_6 => some l2_5) n acc i) (kont := fun a _ => some a) (f := fun i a => a ||| (if bt (allS (haW (gA σ q)) N k) i = true then bitI i else 0)) (fun i _ => k < i) ?_ ?_ (N - (k + 1)) fu (nI 0) (k + 1) (by omega) (by omega) (by omega)).trans (congrArg some pure)
  · intro n acc i hi hI
    refine ⟨?_, by omega⟩
    show La_under_L6 fu q (nI k) σ _ (n + 1) acc (nI i) = _
    rw [La_under_L6, if_pos (in1 hq), ix1, h1, if_neg (nI_ge hi (by omega)), La_hangs_is hq n7 (ha := haW (gA σ q)) (fun i _ => rfl) hg hI hi hfu, bindV_some, nI_1]
    cases bt (allS (haW (gA σ q)) N k) i with
    | false => rw [if_pos (by rfl)]; rfl
    | true => rw [if_neg (by decide), bindV_some]; rfl
  · intro n acc _
    show La_under_L6 fu q (nI k) σ _ (n + 1) acc (nI N) = _
    rw [La_under_L6, if_pos (in1 hq), ix1, h1, if_pos (Int32.le_refl _)]
theorem La_ones_is {fu : Nat} (hfu : 1000 ≤ fu) (x : Int32) : La_ones fu x = some (sizeS x) := by
  rw [La_ones, show (0 : Int32) = nI 0 from rfl]
  refine (loop_f0 (N := 10) (L := fun n acc i => La_ones_L4 fu x (fun l1_3 l2_4 => some l1_3) n acc i) (kont := fun a _ => some a) (f := fun i a => a + ((x >>> (nI i &&& 31)) &&& 1)) ?_ ?_ 10 fu (nI 0) 0 (Nat.zero_add 10) (by omega)).trans rfl
  · intro n acc i hi
    show La_ones_L4 fu x _ (n + 1) acc (nI i) = _
    rw [La_ones_L4, if_neg (show ¬ (10 : Int32) ≤ nI i from nI_ge (b := 10) hi (by omega)), bindV_some, nI_1]
  · intro n acc
    show La_ones_L4 fu x _ (n + 1) acc (nI 10) = _
    rw [La_ones_L4, if_pos (show (10 : Int32) ≤ nI 10 from Int32.le_refl _)]
/-! what may be righted -/
theorem La_stands_is {σ : Sg} {q N T m k : Nat} (hq : jv_ln q = 45) (h : Row (gA σ q) N T m) (hk : k < N) (r : Int32) : La_stands σ q (nI k) r = some (b2 (!(kiW (gA σ q) k == 3) || haW (gA σ q) k == -1 || hasX r (haW (gA σ q) k))) := by
  have hg := h.hg k hk
  obtain ⟨⟨h0, h1, t1, t3, n2, n7, hm⟩, -, -⟩ := h
  rw [La_stands, a13, if_pos (inW hq (by omega)), bindV_some, a10, if_pos (inW hq (by omega)), ixW (by omega), ixW (by omega)]
  show (if ¬ kiW (gA σ q) k = 3 then _ else if haW (gA σ q) k < 0 then _ else if ¬ ((r >>> (haW (gA σ q) k &&& 31)) &&& 1) = 1 then _ else _) = _
  by_cases e3 : kiW (gA σ q) k = 3
  · have e : (kiW (gA σ q) k == 3) = true := by simpa using e3
    rw [if_neg (fun z => z e3), e]
    rcases hg with e1 | ⟨g, g1, e1⟩
    · rw [e1, if_pos (by decide)]
      simp [b2]
    · rw [e1, if_neg (nI_pos (by omega)), show (nI g == -1) = false by simpa using fun z => m1_ne g (by omega) z.symm]
      rw [hasX]
      by_cases e2 : ((r >>> (nI g &&& 31)) &&& 1) = 1
      · rw [if_neg (fun z => z e2), e2]; rfl
      · rw [if_pos e2, show (((r >>> (nI g &&& 31)) &&& 1) == 1) = false by simpa using e2]; rfl
  · have e : (kiW (gA σ q) k == 3) = false := by simpa using e3
    rw [if_pos e3, e]
    rfl
theorem La_may_is {σ : Sg} {q N T m k t fu : Nat} (hq : jv_ln q = 45) (h : Row (gA σ q) N T m) (hk : k < N) (ht : t < T) (hfu : 1000 ≤ fu) : La_may fu σ q (nI k) (nI t) = some (b2 (openS (kiW (gA σ q)) (haW (gA σ q)) (nI m) k && !decide (beW (gA σ q) t < coW (gA σ q) N k))) := by
  have h' := h
  obtain ⟨⟨h0, h1, t1, t3, n2, n7, hm⟩, -, hs⟩ := h'
  obtain ⟨-, ⟨n, q1, q2, q3⟩, -, -, hri⟩ := hs k hk
  have e1 : gA σ q (14 + 5 * k) = b2 (m.testBit k) := hri
  have e2 : gA σ q (11 + 5 * k) = nI n := q1
  rw [La_may, a14, if_pos (inW hq (by omega)), ixW (by omega), e1, openS, hasX_nI m (by omega)]
  cases m.testBit k with
  | true => rw [if_pos (by decide)]; rfl
  | false =>
    rw [if_neg (by decide), a11, if_pos (inW hq (by omega)), ixW (by omega), e2, La_costs_is hq h hfu hk (by omega), bindV_some, a4, if_pos (inW hq (by omega)), ixW (by omega)]
    have e3 : costS (kiW (gA σ q) k) (nI n) (strS (haW (gA σ q)) N k) = coW (gA σ q) N k := by rw [coW, q1]
    rw [e3]
    show (if beW (gA σ q) t < coW (gA σ q) N k then _ else _) = _
    by_cases hl : beW (gA σ q) t < coW (gA σ q) N k
    · rw [if_pos hl]; simp [hl, b2]
    · rw [if_neg hl, La_righted_is hq h hfu, bindV_some, La_stands_is hq h hk, bindV_some]
      simp only [hl, decide_false, Bool.not_false, Bool.and_true, Bool.true_and]
      cases (!(kiW (gA σ q) k == 3) || haW (gA σ q) k == -1 || hasX (nI m) (haW (gA σ q) k)) <;> rfl
