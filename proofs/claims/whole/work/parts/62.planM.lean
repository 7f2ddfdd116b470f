/-! THE PLAN: the model's rows, one behind the other -/
theorem nextL7 {σ : Sg} {N T fu : Nat} (hN7 : N ≤ 7) (ht : gF σ 91 1 = nI T) (hT3 : T ≤ 3) (K : Int32 → Sg → Option (Int32 × Sg)) : ∀ m n (s : Sg) y0, vw s = vw σ → y0 + m ≤ N → m < n → (∀ j, y0 ≤ j → j < y0 + m → gA s 102 j = nI T) → (y0 = 0 ∨ ∃ i, y0 = i + 1 ∧ gA s 102 i ≠ nI T) → ∃ s', Mo_nextRow_L7 fu K n (nI (y0 + m) - 1) s = K (nI y0 - 1) s' ∧ vw s' = vw σ ∧ gA s' 103 = gA s 103 ∧ ∀ j, gA s' 102 j = if y0 ≤ j ∧ j < y0 + m then 0 else gA s 102 j := by
  intro m
  induction m with
  | zero =>
    intro n s y0 v hy hn hd hs
    obtain ⟨n, rfl⟩ : ∃ k, n = k + 1 := ⟨n - 1, by omega⟩
    refine ⟨s, ?_, v, rfl, fun j => by rw [if_neg (by omega)]⟩
    have hT : gF s 91 1 = nI T := by rw [vw_gF v (by rfl)]; exact ht
    rcases hs with rfl | ⟨i, rfl, hi⟩
    · rw [Mo_nextRow_L7, if_pos (by decide)]
    · rw [Nat.add_zero, nI_pred, Mo_nextRow_L7, if_neg (nI_pos (by omega)), if_pos (inb_nI (by omega) (by decide)), ix_nI (by omega), hT, if_pos hi]
  | succ m ih =>
    intro n s y0 v hy hn hd hs
    obtain ⟨n, rfl⟩ : ∃ k, n = k + 1 := ⟨n - 1, by omega⟩
    have hT : gF s 91 1 = nI T := by rw [vw_gF v (by rfl)]; exact ht
    have hin : inb (nI (y0 + m)) 7 = true := inb_nI (by omega) (by decide)
    have hlast : gA s 102 (y0 + m) = nI T := hd (y0 + m) (by omega) (by omega)
    obtain ⟨s', e, v', e3, e2⟩ := ih n (sA s 102 (y0 + m) 0) y0 (by rw [vw_sA (by rfl)]; exact v) (by omega) (by omega) (fun j h1 h2 => by
      rw [gA_sA_same]
      show (if j = y0 + m then (0 : Int32) else gA s 102 j) = nI T
      rw [if_neg (by omega)]
      exact hd j h1 (by omega)) (by
      rcases hs with h | ⟨i, h1, h2⟩
      · exact Or.inl h
      · refine Or.inr ⟨i, h1, ?_⟩
        rw [gA_sA_same]
        show (if i = y0 + m then (0 : Int32) else gA s 102 i) ≠ nI T
        rw [if_neg (by omega)]
        exact h2)
    refine ⟨s', ?_, v', by rw [e3, gA_sA_other (by decide)], fun j => ?_⟩
    · rw [show y0 + (m + 1) = (y0 + m) + 1 by omega, nI_pred, Mo_nextRow_L7, if_neg (nI_pos (by omega)), if_pos hin, ix_nI (by omega), hT, hlast, if_neg (fun z => z rfl), if_pos hin, sub1]
      exact e
    · rw [e2 j, gA_sA_same]
      show (if y0 ≤ j ∧ j < y0 + m then (0 : Int32) else (if j = y0 + m then 0 else gA s 102 j)) = _
      by_cases q : y0 ≤ j ∧ j < y0 + m
      · rw [if_pos q, if_pos ⟨q.1, by omega⟩]
      · rw [if_neg q]
        by_cases q2 : j = y0 + m
        · rw [if_pos q2, if_pos (by omega)]
        · rw [if_neg q2, if_neg (by omega)]
def rowM (s : Sg) (N : Nat) (row : Nat → Nat) : Prop := ∀ j, j < N → gA s 102 j = nI (row j)
/-- the next row: the last digit that is not the greatest goes up, and all behind it to naught -/
theorem next_up {σ s : Sg} {N T fu i d : Nat} {row : Nat → Nat} (hfu : 1000 ≤ fu) (hN7 : N ≤ 7) (hn : gF σ 91 2 = nI N) (ht : gF σ 91 1 = nI T) (hT3 : T ≤ 3) (v : vw s = vw σ) (hi : i < N) (hd : d < T) (hr : ∀ j, j < N → gA s 102 j = nI (if i + 1 ≤ j then T else if j = i then d else row j)) (hz : ∀ j, i < j → j < N → row j = 0) : ∃ s', Mo_nextRow fu s = some (1, s') ∧ vw s' = vw σ ∧ gA s' 103 = gA s 103 ∧ rowM s' N (setR row i (d + 1)) := by
  obtain ⟨s', e, v', e3, e2⟩ := nextL7 (fu := fu) hN7 ht hT3 (fun l1_3 s4 => if 0 ≤ l1_3 then (if inb l1_3 7 = true then (if inb l1_3 7 = true then (some ((1 : Int32), (sA s4 102 (ix l1_3) ((gA s4 102 (ix l1_3)) + (1 : Int32))))) else none) else none) else (some ((0 : Int32), s4))) (N - (i + 1)) fu s (i + 1) v (by omega) (by omega) (fun j h1 h2 => by rw [hr j (by omega), if_pos h1]) (Or.inr ⟨i, rfl, by
    rw [hr i hi, if_neg (by omega), if_pos rfl]
    exact fun z => by have := (nI_inj (by omega) (by omega)).mp z; omega⟩)
  have hin : inb (nI i) 7 = true := inb_nI (by omega) (by decide)
  have hle : (0 : Int32) ≤ nI i := (nI_leI (a := 0) (by omega) (by omega)).mpr (Nat.zero_le i)
  have ei : gA s' 102 i = nI d := by rw [e2 i, if_neg (by omega), hr i hi, if_neg (by omega), if_pos rfl]
  refine ⟨sA s' 102 i (nI (d + 1)), ?_, by rw [vw_sA (by rfl)]; exact v', by rw [gA_sA_other (by decide), e3], fun j hj => ?_⟩
  · rw [show i + 1 + (N - (i + 1)) = N by omega, nI_pred] at e
    rw [Mo_nextRow, vw_gF v (by rfl), hn]
    refine e.trans ?_
    show (if 0 ≤ nI i then _ else _) = _
    rw [if_pos hle, if_pos hin, if_pos hin, ix_nI (by omega), ei, nI_1]
  · rw [gA_sA_same]
    show (if j = i then nI (d + 1) else gA s' 102 j) = nI (if j = i then d + 1 else row j)
    by_cases q : j = i
    · rw [if_pos q, if_pos q]
    · rw [if_neg q, if_neg q, e2 j]
      by_cases q2 : i + 1 ≤ j
      · rw [if_pos ⟨q2, by omega⟩, hz j (by omega) hj]; rfl
      · rw [if_neg (fun z => q2 z.1), hr j hj, if_neg q2, if_neg q]
theorem next_end {σ s : Sg} {N T fu : Nat} (hfu : 1000 ≤ fu) (hN7 : N ≤ 7) (hn : gF σ 91 2 = nI N) (ht : gF σ 91 1 = nI T) (hT3 : T ≤ 3) (v : vw s = vw σ) (hr : ∀ j, j < N → gA s 102 j = nI T) : ∃ s', Mo_nextRow fu s = some (0, s') ∧ vw s' = vw σ ∧ gA s' 103 = gA s 103 := by
  obtain ⟨s', e, v', e3, e2⟩ := nextL7 (fu := fu) hN7 ht hT3 (fun l1_3 s4 => if 0 ≤ l1_3 then (if inb l1_3 7 = true then (if inb l1_3 7 = true then (some ((1 : Int32), (sA s4 102 (ix l1_3) ((gA s4 102 (ix l1_3)) + (1 : Int32))))) else none) else none) else (some ((0 : Int32), s4))) N fu s 0 v (by omega) (by omega) (fun j h1 h2 => hr j (by omega)) (Or.inl rfl)
  refine ⟨s', ?_, v', e3⟩
  rw [Nat.zero_add] at e
  rw [Mo_nextRow, vw_gF v (by rfl), hn]
  refine e.trans ?_
  show (if 0 ≤ nI 0 - 1 then _ else _) = _
  rw [if_neg (by decide)]
/-- where a row's beginning leads -/
def pe (op : Nat → Int32 → Bool) (co bl : Nat → Int32) (a0 : PS) (row : Nat → Nat) : Nat → Option PS
  | 0 => some a0
  | i + 1 => (pe op co bl a0 row i).bind (stJ op co bl i (row i))
theorem pe_none {op : Nat → Int32 → Bool} {co bl : Nat → Int32} {a0 : PS} {row : Nat → Nat} {i : Nat} (h : pe op co bl a0 row i = none) : ∀ m, pe op co bl a0 row (i + m) = none
  | 0 => h
  | m + 1 => by rw [show i + (m + 1) = (i + m) + 1 by omega, pe, pe_none h m]; rfl
theorem pe_cong {op : Nat → Int32 → Bool} {co bl : Nat → Int32} {a0 : PS} {row row' : Nat → Nat} : ∀ i, (∀ j, j < i → row j = row' j) → pe op co bl a0 row i = pe op co bl a0 row' i
  | 0, _ => rfl
  | i + 1, h => by rw [pe, pe, pe_cong i (fun j hj => h j (by omega)), h i (by omega)]
