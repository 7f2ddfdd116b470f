/-! WHAT THE MODEL'S OWN WORDS ANSWER -/
theorem pick1 (x : Int32) : (if 1 ≤ x then x else 1) = (if 1 < x then x else 1) := by
  by_cases h : 1 < x
  · rw [if_pos h, if_pos (Int32.le_of_lt h)]
  · by_cases h2 : 1 ≤ x
    · rw [if_pos h2, if_neg h]
      exact Int32.le_antisymm (Int32.not_lt.mp h) h2
    · rw [if_neg h2, if_neg h]
theorem within_is (a x y : Int32) : Mo_within a x y = some (b2 (!decide (a < x) && !decide (y < a))) := by
  rw [Mo_within]
  by_cases h : a < x
  · rw [if_pos h]; simp [h, b2]
  · by_cases h2 : y < a
    · rw [if_neg h, if_pos h2]; simp [h2, b2]
    · rw [if_neg h, if_neg h2]; simp [h, h2, b2]
theorem Mo_straight_is {σ : Sg} {N fu : Nat} (hN : gF σ 91 2 = nI N) (hN7 : N ≤ 7) (hfu : 1000 ≤ fu) (c : Nat) : Mo_straight fu σ (nI c) = some (strS (gA σ 97) N c) := by
  rw [Mo_straight, show (0 : Int32) = nI 0 from rfl]
  refine (loop_f0 (N := N) (L := fun n acc i => Mo_straight_L4 fu (nI c) σ (fun l2_3 l3_4 => some l2_3) n acc i) (kont := fun a _ => some a) (f := fun i a => a + (if gA σ 97 i = nI c then 1 else 0)) ?_ ?_ N fu (nI 0) 0 (Nat.zero_add N) (by omega)).trans rfl
  · intro n acc i hi
    show Mo_straight_L4 fu (nI c) σ _ (n + 1) acc (nI i) = _
    rw [Mo_straight_L4, hN, if_neg (nI_ge hi (by omega)), if_pos (inb_nI (by omega) (by decide)), ix_nI (by omega), nI_1]
    by_cases h : gA σ 97 i = nI c
    · rw [if_neg (fun z => z h)]; simp [h]
    · rw [if_pos h]; simp [h]
  · intro n acc
    show Mo_straight_L4 fu (nI c) σ _ (n + 1) acc (nI N) = _
    rw [Mo_straight_L4, hN, if_pos (Int32.le_refl _)]
theorem Mo_cost_is {σ : Sg} {N fu : Nat} (hN : gF σ 91 2 = nI N) (hN7 : N ≤ 7) (hfu : 1000 ≤ fu) {c : Nat} (hc : c < 7) : Mo_cost fu σ (nI c) = some (costS (gA σ 94 c) (gA σ 95 c) (strS (gA σ 97) N c)) := by
  have hi : inb (nI c) 7 = true := inb_nI hc (by decide)
  rw [Mo_cost, if_pos hi, Mo_straight_is hN hN7 hfu, bindV_some, ix_nI (by omega), costS]
  simp only [hi, if_true]
  generalize gA σ 94 c = x
  generalize gA σ 95 c - strS (gA σ 97) N c = y
  generalize gA σ 95 c = z
  rw [← pick1 y]
  by_cases h : 1 ≤ y
  · simp only [h, if_true]
    by_cases h1 : x = 1 <;> by_cases h2 : x = 2 <;> by_cases h3 : x = 3 <;> by_cases h4 : x = 4 <;> simp [h1, h2, h3, h4]
  · simp only [h, if_false]
    by_cases h1 : x = 1 <;> by_cases h2 : x = 2 <;> by_cases h3 : x = 3 <;> by_cases h4 : x = 4 <;> simp [h1, h2, h3, h4]
theorem Mo_isOpen_is {σ : Sg} {c : Nat} (hc : c < 7) (done : Int32) : Mo_isOpen σ (nI c) done = some (b2 (openS (gA σ 94) (gA σ 97) done c)) := by
  have hi : inb (nI c) 7 = true := inb_nI hc (by decide)
  rw [Mo_isOpen, openS]
  simp only [hi, if_true, ix_nI (show c < 2147483648 by omega), Mo_isIn_is, bindV_some]
  generalize hasX done (nI c) = d
  by_cases h3 : gA σ 94 c = 3
  · rw [if_neg (fun z => z h3), h3]
    by_cases h4 : gA σ 97 c = -1
    · rw [if_pos h4, h4]
      cases d <;> rfl
    · rw [if_neg h4]
      have e : (gA σ 97 c == -1) = false := by simpa using h4
      rw [e]
      cases d <;> cases hasX done (gA σ 97 c) <;> rfl
  · rw [if_pos h3]
    have e : (gA σ 94 c == 3) = false := by simpa using h3
    rw [e]
    cases d <;> rfl
theorem Mo_mayRight_is {σ : Sg} {N fu : Nat} (hN : gF σ 91 2 = nI N) (hN7 : N ≤ 7) (hfu : 1000 ≤ fu) {c t : Nat} (hc : c < 7) (ht : t < 3) : Mo_mayRight fu σ (nI c) (nI t) = some (b2 (openS (gA σ 94) (gA σ 97) (gF σ 91 9) c && !decide (gA σ 92 t < costS (gA σ 94 c) (gA σ 95 c) (strS (gA σ 97) N c)))) := by
  rw [Mo_mayRight, Mo_isOpen_is hc, bindV_some]
  cases openS (gA σ 94) (gA σ 97) (gF σ 91 9) c with
  | false => rw [if_pos (by rfl)]; rfl
  | true =>
    rw [if_neg (by decide), if_pos (inb_nI ht (by decide)), Mo_cost_is hN hN7 hfu hc, bindV_some, ix_nI (by omega)]
    by_cases h : gA σ 92 t < costS (gA σ 94 c) (gA σ 95 c) (strS (gA σ 97) N c)
    · rw [if_pos h]; simp [h, b2]
    · rw [if_neg h]; simp [h, b2]
theorem Mo_worthIn_is {σ : Sg} {N fu : Nat} (hN : gF σ 91 2 = nI N) (hN7 : N ≤ 7) (hfu : 1000 ≤ fu) (bits : Int32) : Mo_worthIn fu σ bits = some (worthS (gA σ 96) N bits) := by
  rw [Mo_worthIn, show (0 : Int32) = nI 0 from rfl]
  refine (loop_f0 (N := N) (L := fun n acc i => Mo_worthIn_L4 fu bits σ (fun l2_4 l3_5 => some l2_4) n acc i) (kont := fun a _ => some a) (f := fun i a => a + (if hasX bits (nI i) then gA σ 96 i else 0)) ?_ ?_ N fu (nI 0) 0 (Nat.zero_add N) (by omega)).trans rfl
  · intro n acc i hi
    show Mo_worthIn_L4 fu bits σ _ (n + 1) acc (nI i) = _
    rw [Mo_worthIn_L4, hN, if_neg (nI_ge hi (by omega)), Mo_isIn_is, bindV_some, nI_1]
    cases hasX bits (nI i) with
    | false => rw [if_pos (by rfl)]; rfl
    | true => rw [if_neg (by decide), if_pos (inb_nI (by omega) (by decide)), ix_nI (by omega)]; rfl
  · intro n acc
    show Mo_worthIn_L4 fu bits σ _ (n + 1) acc (nI N) = _
    rw [Mo_worthIn_L4, hN, if_pos (Int32.le_refl _)]
theorem Mo_allOn_is {σ : Sg} {N fu : Nat} (hN : gF σ 91 2 = nI N) (hN7 : N ≤ 7) (hfu : 1000 ≤ fu) {c : Nat} (hc : c < N) : Mo_allOn fu σ (nI c) = some (allS (gA σ 97) N c) := by
  rw [Mo_allOn, nI_1]
  refine (loop_f0 (N := N) (L := fun n acc i => Mo_allOn_L6 fu (nI c) σ (fun l2_6 l3_7 => some l2_6) n acc i) (kont := fun a _ => some a) (f := fun i a => a ||| (if gA σ 97 i = nI c then bitI i else if gA σ 97 i = -1 then 0 else if hasX a (gA σ 97 i) then bitI i else 0)) ?_ ?_ (N - (c + 1)) fu 0 (c + 1) (by omega) (by omega)).trans rfl
  · intro n acc i hi
    show Mo_allOn_L6 fu (nI c) σ _ (n + 1) acc (nI i) = _
    have hin : inb (nI i) 7 = true := inb_nI (by omega) (by decide)
    rw [Mo_allOn_L6, hN, if_neg (nI_ge hi (by omega))]
    simp only [hin, if_true, ix_nI (show i < 2147483648 by omega), Mo_isIn_is, bindV_some, nI_1]
    by_cases h1 : gA σ 97 i = nI c
    · rw [if_pos h1, if_pos h1]; rfl
    · rw [if_neg h1, if_neg h1]
      by_cases h2 : gA σ 97 i = -1
      · rw [if_pos h2, if_pos h2]
      · rw [if_neg h2, if_neg h2]
        cases hasX acc (gA σ 97 i) <;> rfl
  · intro n acc
    show Mo_allOn_L6 fu (nI c) σ _ (n + 1) acc (nI N) = _
    rw [Mo_allOn_L6, hN, if_pos (Int32.le_refl _)]
theorem Mo_size_is {fu : Nat} (hfu : 1000 ≤ fu) (bits : Int32) : Mo_size fu bits = some (sizeS bits) := by
  rw [Mo_size, show (0 : Int32) = nI 0 from rfl]
  refine (loop_f0 (N := 10) (L := fun n acc i => Mo_size_L4 fu bits (fun l1_2 l2_3 => some l1_2) n acc i) (kont := fun a _ => some a) (f := fun i a => a + ((bits >>> (nI i &&& 31)) &&& 1)) ?_ ?_ 10 fu (nI 0) 0 rfl (by omega)).trans rfl
  · intro n acc i hi
    show Mo_size_L4 fu bits _ (n + 1) acc (nI i) = _
    rw [Mo_size_L4, show (10 : Int32) = nI 10 from rfl, if_neg (nI_ge hi (by omega)), nI_1]
  · intro n acc
    show Mo_size_L4 fu bits _ (n + 1) acc (nI 10) = _
    rw [Mo_size_L4, show (10 : Int32) = nI 10 from rfl, if_pos (Int32.le_refl _)]
theorem bitCount_is : ∀ m, m < 128 → In_bitCount (nI m) = some (sizeS (nI m)) := by decide +kernel
theorem Mo_treeNow_L5_is {σ : Sg} {N fu : Nat} (hN : gF σ 91 2 = nI N) (hN7 : N ≤ 7) (hfu : 1000 ≤ fu) {t : Nat} (ht : t < 3) (w : Int32) (kont : Int32 → Int32 → Option Int32) : Mo_treeNow_L5 fu (nI t) w σ kont fu 0 (nI 0) = kont (possS (openS (gA σ 94) (gA σ 97) (gF σ 91 9)) (fun c => costS (gA σ 94 c) (gA σ 95 c) (strS (gA σ 97) N c)) (gA σ 92 t) N) (nI N) := by
  refine (loop_f0 (N := N) (L := fun n acc i => Mo_treeNow_L5 fu (nI t) w σ kont n acc i) (kont := kont) (f := fun i a => a ||| (if openS (gA σ 94) (gA σ 97) (gF σ 91 9) i = true ∧ ¬ gA σ 92 t < costS (gA σ 94 i) (gA σ 95 i) (strS (gA σ 97) N i) then bitI i else 0)) ?_ ?_ N fu 0 0 (Nat.zero_add N) (by omega)).trans rfl
  · intro n acc i hi
    show Mo_treeNow_L5 fu (nI t) w σ kont (n + 1) acc (nI i) = _
    rw [Mo_treeNow_L5, hN, if_neg (nI_ge hi (by omega)), Mo_mayRight_is hN hN7 hfu (by omega) ht, bindV_some, nI_1]
    cases openS (gA σ 94) (gA σ 97) (gF σ 91 9) i with
    | false => rw [if_pos (by rfl)]; simp
    | true =>
      by_cases h : gA σ 92 t < costS (gA σ 94 i) (gA σ 95 i) (strS (gA σ 97) N i)
      · rw [if_pos (by simp [h, b2])]; simp [h]
      · rw [if_neg (by simp [h, b2])]; simp [h, bitI]
  · intro n acc
    show Mo_treeNow_L5 fu (nI t) w σ kont (n + 1) acc (nI N) = _
    rw [Mo_treeNow_L5, hN, if_pos (Int32.le_refl _)]
theorem possibleAt5 {σ : Sg} {N fu : Nat} (hN : gF σ 5 1 = nI N) (hN7 : N ≤ 7) (hfu : 1000 ≤ fu) {t : Nat} (ht : t < 3) : Sh_possibleAt fu σ 5 (nI t) = some (possS (openS (gA σ 11) (gA σ 17) (gF σ 5 11)) (fun c => costS (gA σ 11 c) (gA σ 13 c) (gA σ 19 c)) (gA σ 7 t) N) := by
  rw [Sh_possibleAt, show (0 : Int32) = nI 0 from rfl]
  refine (loop_f0 (N := N) (L := fun n acc i => Sh_possibleAt_L4 fu 5 (nI t) σ (fun l2_5 l3_6 => some l2_5) n acc i) (kont := fun a _ => some a) (f := fun i a => a ||| (if openS (gA σ 11) (gA σ 17) (gF σ 5 11) i = true ∧ ¬ gA σ 7 t < costS (gA σ 11 i) (gA σ 13 i) (gA σ 19 i) then bitI i else 0)) ?_ ?_ N fu (nI 0) 0 (Nat.zero_add N) (by omega)).trans rfl
  · intro n acc i hi
    show Sh_possibleAt_L4 fu 5 (nI t) σ _ (n + 1) acc (nI i) = _
    rw [Sh_possibleAt_L4, hN, if_neg (nI_ge hi (by omega)), isPossible5 (by omega) ht, bindV_some, nI_1]
    cases openS (gA σ 11) (gA σ 17) (gF σ 5 11) i with
    | false => rw [if_pos (by rfl)]; simp
    | true =>
      by_cases h : gA σ 7 t < costS (gA σ 11 i) (gA σ 13 i) (gA σ 19 i)
      · rw [if_pos (by simp [h, b2])]; simp [h]
      · rw [if_neg (by simp [h, b2]), Co_bit_is, bindV_some]; simp [h]
  · intro n acc
    show Sh_possibleAt_L4 fu 5 (nI t) σ _ (n + 1) acc (nI N) = _
    rw [Sh_possibleAt_L4, hN, if_pos (Int32.le_refl _)]
