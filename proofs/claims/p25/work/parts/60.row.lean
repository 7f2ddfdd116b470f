/-! THE LAW'S ROW: what the law writes down of a shire, and what its own methods make of it -/
def kiW (W : Nat → Int32) (i : Nat) : Int32 := W (10 + 5 * i)
def neW (W : Nat → Int32) (i : Nat) : Int32 := W (11 + 5 * i)
def woW (W : Nat → Int32) (i : Nat) : Int32 := W (12 + 5 * i)
def haW (W : Nat → Int32) (i : Nat) : Int32 := W (13 + 5 * i)
def riW (W : Nat → Int32) (i : Nat) : Int32 := W (14 + 5 * i)
def beW (W : Nat → Int32) (i : Nat) : Int32 := W (4 + i)
def biW (W : Nat → Int32) (i : Nat) : Int32 := W (7 + i)
def RowA (W : Nat → Int32) (N T m : Nat) : Prop := W 0 = nI T ∧ W 1 = nI N ∧ 1 ≤ T ∧ T ≤ 3 ∧ 2 ≤ N ∧ N ≤ 7 ∧ m < 2 ^ N
def RowT (W : Nat → Int32) (T : Nat) : Prop := ∀ t, t < T → (∃ b, beW W t = nI b ∧ b ≤ 20) ∧ ∃ d, biW W t = nI d ∧ d ≤ 9
def RowS (W : Nat → Int32) (N m : Nat) : Prop := ∀ k, k < N → (∃ x, kiW W k = nI x ∧ x ≤ 4) ∧ (∃ x, neW W k = nI x ∧ 1 ≤ x ∧ x ≤ 9) ∧ (∃ x, woW W k = nI x ∧ x ≤ 9) ∧ (haW W k = -1 ∨ ∃ h, h < k ∧ haW W k = nI h) ∧ riW W k = b2 (m.testBit k)
def Row (W : Nat → Int32) (N T m : Nat) : Prop := RowA W N T m ∧ RowT W T ∧ RowS W N m
def coW (W : Nat → Int32) (N k : Nat) : Int32 := costS (kiW W k) (neW W k) (strS (haW W) N k)
theorem a5m (l : Nat) : (5 : Int32) * nI l = nI (5 * l) := nI_mul 5 l
theorem a4 (t : Nat) : (4 : Int32) + nI t = nI (4 + t) := nI_add 4 t
theorem a7 (t : Nat) : (7 : Int32) + nI t = nI (7 + t) := nI_add 7 t
theorem a10 (k : Nat) : (10 : Int32) + (5 : Int32) * nI k = nI (10 + 5 * k) := by rw [a5m]; exact nI_add 10 (5 * k)
theorem a11 (k : Nat) : (11 : Int32) + (5 : Int32) * nI k = nI (11 + 5 * k) := by rw [a5m]; exact nI_add 11 (5 * k)
theorem a12 (k : Nat) : (12 : Int32) + (5 : Int32) * nI k = nI (12 + 5 * k) := by rw [a5m]; exact nI_add 12 (5 * k)
theorem a13 (k : Nat) : (13 : Int32) + (5 : Int32) * nI k = nI (13 + 5 * k) := by rw [a5m]; exact nI_add 13 (5 * k)
theorem a14 (k : Nat) : (14 : Int32) + (5 : Int32) * nI k = nI (14 + 5 * k) := by rw [a5m]; exact nI_add 14 (5 * k)
theorem inW {q i : Nat} (hq : jv_ln q = 45) (hi : i < 45) : inb (nI i) (jv_ln q) = true := by rw [hq]; exact inb_nI hi (by decide)
theorem ixW {i : Nat} (hi : i < 45) : ix (nI i) = i := ix_nI (by omega)
theorem in0 {q : Nat} (hq : jv_ln q = 45) : inb (0 : Int32) (jv_ln q) = true := by rw [hq]; rfl
theorem in1 {q : Nat} (hq : jv_ln q = 45) : inb (1 : Int32) (jv_ln q) = true := by rw [hq]; rfl
theorem in2 {q : Nat} (hq : jv_ln q = 45) : inb (2 : Int32) (jv_ln q) = true := by rw [hq]; rfl
theorem in3 {q : Nat} (hq : jv_ln q = 45) : inb (3 : Int32) (jv_ln q) = true := by rw [hq]; rfl
theorem ix0 : ix (0 : Int32) = 0 := rfl
theorem ix1 : ix (1 : Int32) = 1 := rfl
theorem ix2 : ix (2 : Int32) = 2 := rfl
theorem ix3 : ix (3 : Int32) = 3 := rfl
theorem m1_le (k : Nat) (hk : k < 1000) : (-1 : Int32) ≤ nI k := by
  rw [Int32.le_iff_toInt_le, nI_toInt (by omega)]
  have : (-1 : Int32).toInt = -1 := by decide
  omega
theorem m1_ne (k : Nat) (hk : k < 1000) : ¬ (-1 : Int32) = nI k := by
  intro z
  have h := congrArg Int32.toInt z
  rw [nI_toInt (by omega)] at h
  have : (-1 : Int32).toInt = -1 := by decide
  omega
theorem two7 {N : Nat} (h : N ≤ 7) : 2 ^ N ≤ 128 := Nat.pow_le_pow_right (by decide) h
/-! which are righted -/
theorem low_bits : ∀ m, m < 128 → ∀ j, j < 7 → (m % 2 ^ j) ||| (if m.testBit j = true then 2 ^ j else 0) = m % 2 ^ (j + 1) := by decide +kernel
theorem shl_b2 : ∀ j, j < 7 → b2 false <<< (nI j &&& 31) = nI 0 ∧ b2 true <<< (nI j &&& 31) = nI (2 ^ j) := by decide +kernel
theorem rightedW {W : Nat → Int32} {N T m : Nat} (h : Row W N T m) : fo (fun i a => a ||| (riW W i <<< (nI i &&& 31))) N 0 (nI 0) = nI m := by
  obtain ⟨⟨-, -, -, -, -, n7, hm⟩, -, hs⟩ := h
  have h2 := two7 n7
  have h := fo_inv (f := fun i a => a ||| (riW W i <<< (nI i &&& 31))) (fun i a => a = nI (m % 2 ^ i)) N 0 (nI 0) (by rw [Nat.pow_zero, Nat.mod_one]) (by
    rintro j a - hj rfl
    show nI (m % 2 ^ j) ||| (riW W j <<< (nI j &&& 31)) = nI (m % 2 ^ (j + 1))
    rw [(hs j (by omega)).2.2.2.2, ← low_bits m (by omega) j (by omega)]
    cases m.testBit j with
    | false => rw [(shl_b2 j (by omega)).1, nI_or]; rfl
    | true => rw [(shl_b2 j (by omega)).2, nI_or]; rfl)
  rw [Nat.zero_add] at h
  rw [h, Nat.mod_eq_of_lt hm]
theorem La_righted_is {σ : Sg} {q N T m fu : Nat} (hq : jv_ln q = 45) (h : Row (gA σ q) N T m) (hfu : 1000 ≤ fu) : La_righted fu σ q = some (nI m) := by
  have hr := rightedW h
  obtain ⟨⟨h0, h1, t1, t3, n2, n7, hm⟩, -, -⟩ := h
  rw [La_righted, show (0 : Int32) = nI 0 from rfl]
  refine (loop_f0 (N := N) (L := fun n acc i => La_righted_L4 fu q σ (fun l1_3 l2_4 => some l1_3) n acc i) (kont := fun a _ => some a) (f := fun i a => a ||| (riW (gA σ q) i <<< (nI i &&& 31))) ?_ ?_ N fu (nI 0) 0 (Nat.zero_add N) (by omega)).trans (congrArg some hr)
  · intro n acc i hi
    show La_righted_L4 fu q σ _ (n + 1) acc (nI i) = _
    rw [La_righted_L4, if_pos (in1 hq), ix1, h1, if_neg (nI_ge hi (by omega)), a14, if_pos (inW hq (by omega)), bindV_some, ixW (by omega), nI_1]
    rfl
  · intro n acc
    show La_righted_L4 fu q σ _ (n + 1) acc (nI N) = _
    rw [La_righted_L4, if_pos (in1 hq), ix1, h1, if_pos (Int32.le_refl _)]
/-! what they are worth -/
theorem and1b (y : Int32) : y &&& 1 = b2 (bt y 0) := by
  apply b_ext
  intro i hi
  rw [b_and, b_one i hi]
  by_cases h0 : i = 0
  · subst h0
    cases bt y 0 <;> simp [b2, b_0, b_one 0 (by decide)]
  · cases bt y 0 <;> simp [b2, b_0, b_one i hi, h0]
theorem and1_mul (y x : Int32) : (y &&& 1) * x = if (y &&& 1 == 1) = true then x else 0 := by
  rw [and1b]
  cases bt y 0
  · simp [b2]
  · simp [b2]
theorem La_worth_is {σ : Sg} {q N T m fu : Nat} (hq : jv_ln q = 45) (h : RowA (gA σ q) N T m) (hfu : 1000 ≤ fu) (bits : Int32) : La_worth fu σ q bits = some (worthS (woW (gA σ q)) N bits) := by
  obtain ⟨h0, h1, t1, t3, n2, n7, hm⟩ := h
  rw [La_worth, show (0 : Int32) = nI 0 from rfl]
  refine (loop_f0 (N := N) (L := fun n acc i => La_worth_L4 fu q bits σ (fun l2_3 l3_4 => some l2_3) n acc i) (kont := fun a _ => some a) (f := fun i a => a + (if hasX bits (nI i) then woW (gA σ q) i else 0)) ?_ ?_ N fu (nI 0) 0 (Nat.zero_add N) (by omega)).trans rfl
  · intro n acc i hi
    show La_worth_L4 fu q bits σ _ (n + 1) acc (nI i) = _
    rw [La_worth_L4, if_pos (in1 hq), ix1, h1, if_neg (nI_ge hi (by omega)), a12, if_pos (inW hq (by omega)), bindV_some, ixW (by omega), nI_1, and1_mul]
    rfl
  · intro n acc
    show La_worth_L4 fu q bits σ _ (n + 1) acc (nI N) = _
    rw [La_worth_L4, if_pos (in1 hq), ix1, h1, if_pos (Int32.le_refl _)]
/-! what one costs -/
def costL (x n s : Int32) : Option Int32 := bindV (if (1 : Int32) ≤ (n - s) then (some (n - s)) else (some (1 : Int32))) fun v6 => if ¬ x = (1 : Int32) then (if ¬ x = (2 : Int32) then (if ¬ x = (4 : Int32) then (some n) else (some ((v6 / (2 : Int32)) + (v6 - v6 / (2 : Int32) * (2 : Int32))))) else (some (n + n))) else (some v6)
theorem costL_is : ∀ x, x < 5 → ∀ n, n < 10 → ∀ s, s < 8 → costL (nI x) (nI n) (nI s) = some (costS (nI x) (nI n) (nI s)) := by decide +kernel
theorem costs5 {σ : Sg} {q N T m fu k : Nat} (hq : jv_ln q = 45) (h : RowA (gA σ q) N T m) (hfu : 1000 ≤ fu) (a2 : Int32) (kont : Int32 → Int32 → Option Int32) : La_costs_L5 fu q (nI k) a2 σ kont fu 0 0 = kont (strS (haW (gA σ q)) N k) (nI N) := by
  obtain ⟨h0, h1, t1, t3, n2, n7, hm⟩ := h
  refine loop_f0 (N := N) (L := fun m acc i => La_costs_L5 fu q (nI k) a2 σ kont m acc i) (kont := kont) (f := fun i a => a + (if haW (gA σ q) i = nI k then 1 else 0)) ?_ ?_ N fu 0 0 (Nat.zero_add N) (by omega)
  · intro m acc i hi
    show La_costs_L5 fu q (nI k) a2 σ kont (m + 1) acc (nI i) = _
    rw [La_costs_L5, if_pos (in1 hq), ix1, h1, if_neg (nI_ge hi (by omega)), a13, if_pos (inW hq (by omega)), ixW (by omega), nI_1]
    show (if ¬ haW (gA σ q) i = nI k then _ else _) = _
    by_cases hh : haW (gA σ q) i = nI k
    · rw [if_neg (fun z => z hh), if_pos hh]
    · rw [if_pos hh, if_neg hh]
  · intro m acc
    show La_costs_L5 fu q (nI k) a2 σ kont (m + 1) acc (nI N) = _
    rw [La_costs_L5, if_pos (in1 hq), ix1, h1, if_pos (Int32.le_refl _)]
theorem La_costs_is {σ : Sg} {q N T m fu k n : Nat} (hq : jv_ln q = 45) (h : Row (gA σ q) N T m) (hfu : 1000 ≤ fu) (hk : k < N) (hn : n < 10) : La_costs fu σ q (nI k) (nI n) = some (costS (kiW (gA σ q) k) (nI n) (strS (haW (gA σ q)) N k)) := by
  have hl := costs5 (k := k) hq h.1 hfu (nI n)
  obtain ⟨⟨h0, h1, t1, t3, n2, n7, hm⟩, -, hs⟩ := h
  obtain ⟨x, x1, x2⟩ := (hs k hk).1
  obtain ⟨s, s1, s2⟩ := strS_rng (haW (gA σ q)) N k
  rw [La_costs, hl, a10, if_pos (inW hq (by omega)), bindV_some, ixW (by omega)]
  show costL (kiW (gA σ q) k) (nI n) (strS (haW (gA σ q)) N k) = _
  rw [x1, s1]
  exact costL_is x (by omega) n hn s (by omega)
