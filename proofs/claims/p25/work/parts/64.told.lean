/-! WHAT IS TOLD OF ALL -/
def asV (x a i : Int32) : Option Int32 := if i = 0 then some a else if i = x then some a else if ¬ i = 1 then some (-1) else if ¬ x = 4 then some (-1) else some a
theorem asV_some (x a i : Int32) : ∃ v, asV x a i = some v := by
  rw [asV]
  repeat' split
  all_goals exact ⟨_, rfl⟩
theorem Co_as_is {σ : Sg} {W : Nat → Int32} {N T m k i : Nat} (h : CI σ W N T m) (hr : RowA W N T m) (hk : k < N) (hi : i < 5) : Co_as σ (nI k) (nI i) = asV (kiW W k) (nI k) (nI i) := by
  obtain ⟨h0, h1, t1, t3, n2, n7, hm⟩ := hr
  obtain ⟨a1, -⟩ := h.2.2.2.2.2 k hk
  rw [Co_as, hasSuit_in h.1.1 n7 hk, bindV_some, if_pos (by decide), if_neg (nI_pos (by omega)), if_pos (show nI i ≤ 4 from (nI_leI (b := 4) (by omega) (by omega)).mpr (by omega)), Sh_isOfKind, at_ki5 (by omega), bindV_some, a1, asV]
  generalize kiW W k = x
  by_cases h0 : nI i = 0
  · rw [if_pos h0, if_pos h0, bindV_some, if_neg (by decide)]
  · rw [if_neg h0, if_neg h0]
    by_cases h1 : x = nI i
    · rw [if_pos h1, if_pos h1.symm, bindV_some, if_neg (by decide)]
    · have h1' : ¬ nI i = x := fun z => h1 z.symm
      rw [if_neg h1, if_neg h1']
      by_cases h2 : nI i = 1
      · rw [if_neg (not_not_intro h2), if_neg (not_not_intro h2)]
        by_cases h3 : x = 4
        · rw [if_neg (not_not_intro h3), if_neg (not_not_intro h3), bindV_some, if_neg (by decide)]
        · rw [if_pos h3, if_pos h3, bindV_some, if_pos rfl]
      · rw [if_pos h2, if_pos h2, bindV_some, if_pos rfl]
theorem told168 {σ : Sg} {q N T m k fu : Nat} (hq : jv_ln q = 45) (h : CI σ (gA σ q) N T m) (hr : RowA (gA σ q) N T m) (hk : k < N) (hfu : 1000 ≤ fu) (l2 : Int32) (kont : Int32 → Option Int32) : La_told_L168 fu q l2 (nI k) (nI (10 + 5 * k)) σ kont fu 0 = kont (nI 5) := by
  have n7 := hr.2.2.2.2.2.1
  refine loop_seq (N := 5) (L := fun n i (_ : Unit) => La_told_L168 fu q l2 (nI k) (nI (10 + 5 * k)) σ kont n i) (kont := fun i _ => kont i) (fun _ => ()) ?_ ?_ 5 fu 0 (Nat.zero_add 5) (by omega)
  · intro n i hi
    show La_told_L168 fu q l2 (nI k) (nI (10 + 5 * k)) σ kont (n + 1) (nI i) = La_told_L168 fu q l2 (nI k) (nI (10 + 5 * k)) σ kont n (nI (i + 1))
    rw [La_told_L168, if_neg (show ¬ (5 : Int32) ≤ nI i from nI_ge (b := 5) hi (by omega)), Co_as_is h hr hk hi]
    simp only [inW hq (show 10 + 5 * k < 45 by omega), eq_self_iff_true, if_true, ixW (show 10 + 5 * k < 45 by omega)]
    show bindV (asV (kiW (gA σ q) k) (nI k) (nI i)) (fun r => bindV (asV (kiW (gA σ q) k) (nI k) (nI i)) fun v => _) = _
    obtain ⟨v, hv⟩ := asV_some (kiW (gA σ q) k) (nI k) (nI i)
    rw [hv, bindV_some, bindV_some, if_pos rfl, nI_1]
  · intro n
    show La_told_L168 fu q l2 (nI k) (nI (10 + 5 * k)) σ kont (n + 1) (nI 5) = _
    rw [La_told_L168, if_pos (show (5 : Int32) ≤ nI 5 from Int32.le_refl _)]
theorem x1 (k : Nat) : nI (10 + 5 * k) + 1 = nI (11 + 5 * k) := by rw [nI_1, show 10 + 5 * k + 1 = 11 + 5 * k by omega]
theorem x2 (k : Nat) : nI (10 + 5 * k) + 2 = nI (12 + 5 * k) := by rw [nI_p2, show 10 + 5 * k + 2 = 12 + 5 * k by omega]
theorem x3 (k : Nat) : nI (10 + 5 * k) + 3 = nI (13 + 5 * k) := by rw [nI_p3, show 10 + 5 * k + 3 = 13 + 5 * k by omega]
theorem x4 (k : Nat) : nI (10 + 5 * k) + 4 = nI (14 + 5 * k) := by rw [nI_p4, show 10 + 5 * k + 4 = 14 + 5 * k by omega]
theorem told7 {σ : Sg} {q N T m k fu n : Nat} (hq : jv_ln q = 45) (h : CI σ (gA σ q) N T m) (hr : Row (gA σ q) N T m) (hk : k < N) (hfu : 1000 ≤ fu) (kont : Int32 → Option Int32) : La_told_L7 fu q (nI m) σ kont (n + 1) (nI k) = La_told_L7 fu q (nI m) σ kont n (nI (k + 1)) := by
  obtain ⟨⟨s0, s1, s2⟩, ⟨s3, s4, s5⟩, s6, s7, s8⟩ := Co_suit_is h hr.1 hk hfu
  have hu := La_under_is hq hr hk hfu
  have hr' := hr
  obtain ⟨⟨h0, h1, t1, t3, n2, n7, hm⟩, -, hs⟩ := hr'
  obtain ⟨-, ⟨nn, q1, q2, q3⟩, -, -, hri⟩ := hs k hk
  have e2 : gA σ q (11 + 5 * k) = nI nn := q1
  have e3 : costS (kiW (gA σ q) k) (nI nn) (strS (haW (gA σ q)) N k) = coW (gA σ q) N k := by rw [coW, q1]
  rw [La_told_L7, if_pos (in1 hq), ix1, h1, if_neg (nI_ge hk (by omega)), a10, bindV_some, x1, x2, x3, x4, s0, bindV_some, if_pos (inW hq (by omega)), ixW (show 10 + 5 * k < 45 by omega), if_neg (fun z => z rfl)]
  rw [s1, bindV_some, if_pos (inW hq (by omega)), ixW (show 11 + 5 * k < 45 by omega), if_neg (fun z => z rfl)]
  rw [s2, bindV_some, if_pos (inW hq (by omega)), ixW (show 12 + 5 * k < 45 by omega), if_neg (fun z => z rfl)]
  rw [s3, bindV_some, if_pos (inW hq (by omega)), ixW (show 13 + 5 * k < 45 by omega), if_neg (fun z => z rfl)]
  rw [s4, bindV_some, if_pos (inW hq (by omega)), e2, La_costs_is hq hr hfu hk (by omega), e3, bindV_some, if_neg (fun z => z rfl)]
  rw [s5, bindV_some, if_pos (inW hq (by omega)), ixW (show 14 + 5 * k < 45 by omega), if_neg (fun z => z hri.symm)]
  rw [s6, bindV_some, hu, bindV_some, if_neg (fun z => z rfl)]
  rw [s7, bindV_some, bindV_some, La_ones_is hfu, bindV_some, if_neg (fun z => z rfl), s8, bindV_some, if_pos rfl, told168 hq h hr.1 hk hfu, nI_1]
theorem told253 {σ : Sg} {q N T m t fu : Nat} (hq : jv_ln q = 45) (hr : Row (gA σ q) N T m) (ht : t < T) (hfu : 1000 ≤ fu) (l2 l3 l4 : Int32) (kont : Int32 → Int32 → Option Int32) : La_told_L253 fu q l2 l3 l4 (nI t) σ kont fu 0 0 = kont (possS (openS (kiW (gA σ q)) (haW (gA σ q)) (nI m)) (coW (gA σ q) N) (beW (gA σ q) t) N) (nI N) := by
  have hr' := hr
  obtain ⟨⟨h0, h1, t1, t3, n2, n7, hm⟩, -, hs⟩ := hr'
  refine loop_fo (N := N) (L := fun n acc i => La_told_L253 fu q l2 l3 l4 (nI t) σ kont n acc i) (kont := kont) (f := fun i a => a ||| (if openS (kiW (gA σ q)) (haW (gA σ q)) (nI m) i = true ∧ ¬ beW (gA σ q) t < coW (gA σ q) N i then bitI i else 0)) (fun _ _ => True) ?_ ?_ N fu 0 0 (Nat.zero_add N) (by omega) trivial
  · intro n acc i hi _
    refine ⟨?_, trivial⟩
    show La_told_L253 fu q l2 l3 l4 (nI t) σ kont (n + 1) acc (nI i) = _
    rw [La_told_L253, if_pos (in1 hq), ix1, h1, if_neg (nI_ge hi (by omega)), La_may_is hq hr hi ht hfu, bindV_some, nI_1]
    cases openS (kiW (gA σ q)) (haW (gA σ q)) (nI m) i with
    | false => rw [if_pos (by rfl)]; simp
    | true =>
      by_cases hl : beW (gA σ q) t < coW (gA σ q) N i
      · rw [if_pos (by simp [hl, b2])]; simp [hl]
      · rw [if_neg (by simp [hl, b2]), bindV_some]; simp only [hl, not_false_eq_true, and_self, if_true]; rfl
  · intro n acc _
    show La_told_L253 fu q l2 l3 l4 (nI t) σ kont (n + 1) acc (nI N) = _
    rw [La_told_L253, if_pos (in1 hq), ix1, h1, if_pos (Int32.le_refl _)]
theorem fo_pair (f g : Nat → Int32) : ∀ (n i : Nat) (a b : Int32), fo (fun i (p : Int32 × Int32) => (p.1 + f i, p.2 + g i)) n i (a, b) = (fo (fun i a => a + f i) n i a, fo (fun i a => a + g i) n i b)
  | 0, _, _, _ => rfl
  | n + 1, i, a, b => by rw [fo, fo, fo, fo_pair f g n (i + 1)]
theorem told239 {σ : Sg} {q N T m fu : Nat} (hq : jv_ln q = 45) (h : CI σ (gA σ q) N T m) (hr : Row (gA σ q) N T m) (hfu : 1000 ≤ fu) (l2 : Int32) (kont : Int32 → Int32 → Int32 → Option Int32) : La_told_L239 fu q l2 σ kont fu 0 0 0 = kont (sumS (beW (gA σ q)) T) (sumS (biW (gA σ q)) T) (nI T) := by
  have hr' := hr
  obtain ⟨⟨h0, h1, t1, t3, n2, n7, hm⟩, -, hs⟩ := hr'
  have key := loop_fo (N := T) (L := fun n (acc : Int32 × Int32) i => La_told_L239 fu q l2 σ kont n acc.1 acc.2 i) (kont := fun acc i => kont acc.1 acc.2 i) (f := fun i (p : Int32 × Int32) => (p.1 + beW (gA σ q) i, p.2 + biW (gA σ q) i)) (fun _ _ => True) ?_ ?_ T fu (0, 0) 0 (Nat.zero_add T) (by omega) trivial
  · rw [fo_pair] at key
    exact key
  · intro n acc i hi _
    refine ⟨?_, trivial⟩
    obtain ⟨c0, c1, c2⟩ := Co_tree_is h hr.1 hi hfu
    show La_told_L239 fu q l2 σ kont (n + 1) acc.1 acc.2 (nI i) = La_told_L239 fu q l2 σ kont n (acc.1 + beW (gA σ q) i) (acc.2 + biW (gA σ q) i) (nI (i + 1))
    rw [La_told_L239, if_pos (in0 hq), ix0, h0, if_neg (nI_ge hi (by omega)), told253 hq hr hi hfu, a4, a7, if_pos (inW hq (by omega)), bindV_some, if_pos (inW hq (by omega)), bindV_some, c0, bindV_some, if_pos (inW hq (by omega)), ixW (show 4 + i < 45 by omega), if_neg (fun z => z rfl), c1, bindV_some, if_pos (inW hq (by omega)), ixW (show 7 + i < 45 by omega), if_neg (fun z => z rfl), c2, bindV_some, if_pos rfl, nI_1]
    rfl
  · intro n acc _
    show La_told_L239 fu q l2 σ kont (n + 1) acc.1 acc.2 (nI T) = _
    rw [La_told_L239, if_pos (in0 hq), ix0, h0, if_pos (Int32.le_refl _)]
theorem told7all {σ : Sg} {q N T m fu : Nat} (hq : jv_ln q = 45) (h : CI σ (gA σ q) N T m) (hr : Row (gA σ q) N T m) (hfu : 1000 ≤ fu) (kont : Int32 → Option Int32) : La_told_L7 fu q (nI m) σ kont fu 0 = kont (nI N) := by
  have hr' := hr
  obtain ⟨⟨h0, h1, t1, t3, n2, n7, hm⟩, -, -⟩ := hr'
  refine loop_seq (N := N) (L := fun n i (_ : Unit) => La_told_L7 fu q (nI m) σ kont n i) (kont := fun i _ => kont i) (fun _ => ()) (fun n i hi => told7 hq h hr hi hfu _) (fun n => ?_) N fu 0 (Nat.zero_add N) (by omega)
  show La_told_L7 fu q (nI m) σ _ (n + 1) (nI N) = _
  rw [La_told_L7, if_pos (in1 hq), ix1, h1, if_pos (Int32.le_refl _)]
theorem La_told_is {σ : Sg} {q N T m fu : Nat} (hq : jv_ln q = 45) (h : CI σ (gA σ q) N T m) (hr : Row (gA σ q) N T m) (hy : gF σ 5 12 = gA σ q 2) (ho : gF σ 5 13 = gA σ q 3) (hfu : 1000 ≤ fu) : La_told fu σ q = some 1 := by
  obtain ⟨⟨c0, c1, c2, c3⟩, c4, c5, c6, c7⟩ := Co_count_is h hr.1 hfu
  have hr' := hr
  obtain ⟨⟨h0, h1, t1, t3, n2, n7, hm⟩, -, -⟩ := hr'
  rw [La_told, La_righted_is hq hr hfu, bindV_some, told7all hq h hr hfu, told239 hq h hr hfu, c0, bindV_some, if_pos (in0 hq), ix0, h0, if_neg (fun z => z rfl), c1, bindV_some, if_pos (in1 hq), ix1, h1, if_neg (fun z => z rfl), c2, bindV_some, if_neg (fun z => z rfl), c3, bindV_some, if_neg (fun z => z rfl), c4, bindV_some, La_ones_is hfu, bindV_some, if_neg (fun z => z rfl), c5, bindV_some, La_worth_is hq hr.1 hfu, bindV_some, if_neg (fun z => z rfl), c6, bindV_some, if_pos (in2 hq), ix2, hy, if_neg (fun z => z rfl), c7, bindV_some, if_pos (in3 hq), ix3, ho, if_neg (fun z => z rfl)]
