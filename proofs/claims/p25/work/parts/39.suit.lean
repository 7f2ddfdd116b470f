/-! WHAT IS SEEN: needs and tries -/
theorem or0 (x : Int32) : x ||| 0 = x := b_ext (fun i _ => by rw [b_or, b_0, Bool.or_false])
theorem sA_back (σ : Sg) (k i : Nat) (v : Int32) : sA (sA σ k i v) k i (gA σ k i) = σ := by
  refine Prod.ext rfl (Prod.ext ?_ rfl)
  funext a b
  show (if a = k ∧ b = i then gA σ k i else if a = k ∧ b = i then v else σ.2.1 a b) = σ.2.1 a b
  by_cases h : a = k ∧ b = i
  · rw [if_pos h, h.1, h.2]; rfl
  · rw [if_neg h, if_neg h]
def allB (p : Nat → Bool) (n i : Nat) : Bool := fo (fun j b => b && p j) n i true
theorem fo_false (p : Nat → Bool) : ∀ n i, fo (fun j b => b && p j) n i false = false
  | 0, _ => rfl
  | n + 1, i => by rw [fo, Bool.false_and]; exact fo_false p n (i + 1)
theorem allB_succ (p : Nat → Bool) (n i : Nat) : allB p (n + 1) i = (p i && allB p n (i + 1)) := by
  rw [allB, fo, Bool.true_and]
  cases h : p i with
  | true => rw [Bool.true_and]; rfl
  | false => rw [Bool.false_and]; exact fo_false p n (i + 1)
def okP (su be en : Nat → Int32) (c : Nat) (co : Int32) (i : Nat) : Bool := !(su i == nI c) || (!decide (be i < co) == (en i == 1))
theorem Si_allow_is {σ : Sg} {S fu : Nat} (hS : gF σ 22 3 = nI S) (hS8 : S ≤ 8) (hfu : 1000 ≤ fu) (c : Nat) (co : Int32) : Si_allow fu σ 22 (nI c) co = some (b2 (allB (okP (gA σ 24) (gA σ 26) (gA σ 28) c co) S 0)) := by
  have key : ∀ (m n i : Nat), i + m = S → m < n → Si_allow_L2 fu 22 (nI c) co σ (fun l3_16 => some (1 : Int32)) n (nI i) = some (b2 (allB (okP (gA σ 24) (gA σ 26) (gA σ 28) c co) m i)) := by
    intro m
    induction m with
    | zero =>
      intro n i hi hn
      obtain ⟨n, rfl⟩ : ∃ k, n = k + 1 := ⟨n - 1, by omega⟩
      rw [Nat.add_zero] at hi
      subst hi
      rw [Si_allow_L2, hS, if_pos (Int32.le_refl _)]
      rfl
    | succ m ih =>
      intro n i hi hn
      obtain ⟨n, rfl⟩ : ∃ k, n = k + 1 := ⟨n - 1, by omega⟩
      have ih' := ih n (i + 1) (by omega) (by omega)
      rw [Si_allow_L2, hS, if_neg (nI_ge (by omega) (by omega)), Rw_at_in (n := 8) rfl (by omega) (by decide), bindV_some, Rw_at_in (n := 8) rfl (by omega) (by decide), bindV_some, Rw_at_in (n := 8) rfl (by omega) (by decide), bindV_some, nI_1, allB_succ, okP]
      rw [bindV_some, bindV_some, ih']
      simp only [show 22 + 3 + 1 = 26 from rfl, show 22 + 1 + 1 = 24 from rfl, show 22 + 5 + 1 = 28 from rfl]
      generalize allB (okP (gA σ 24) (gA σ 26) (gA σ 28) c co) m (i + 1) = rest
      by_cases h1 : gA σ 24 i = nI c <;> by_cases h2 : gA σ 26 i < co <;> by_cases h3 : gA σ 28 i = 1 <;> simp [h1, h2, h3, b2]
  rw [Si_allow, show (0 : Int32) = nI 0 from rfl]
  exact key S fu 0 (Nat.zero_add S) (by omega)
def needS (ok : Nat → Bool) : Int32 := fo (fun i a => a ||| (if ok i = true then (1 : Int32) <<< ((nI i - 1) &&& 31) else 0)) 9 1 0
theorem nI9 {i : Nat} (h : i < 10) : ¬ 9 < nI i := by
  rw [show (9 : Int32) = nI 9 from rfl, nI_ltI (by omega) (by omega)]; omega
theorem nI18 {i : Nat} (h : i < 19) : ¬ 18 < nI i := by
  rw [show (18 : Int32) = nI 18 from rfl, nI_ltI (by omega) (by omega)]; omega
theorem Gu_possibleNeeds_is {σ : Sg} {S fu : Nat} (hS : gF σ 22 3 = nI S) (hS8 : S ≤ 8) (hfu : 1000 ≤ fu) {c : Nat} (hc : c < 7) : Gu_possibleNeeds fu σ (nI c) = some (needS (fun i => allB (okP (gA σ 24) (gA σ 26) (gA σ 28) c (costS (gA σ 11 c) (nI i) (gA σ 19 c))) S 0)) := by
  rw [Gu_possibleNeeds]
  refine (loop_f0 (N := 10) (L := fun n acc i => Gu_possibleNeeds_L4 fu (nI c) σ (fun l2_6 l3_7 => some l2_6) n acc i) (kont := fun a _ => some a) (f := fun i a => a ||| (if allB (okP (gA σ 24) (gA σ 26) (gA σ 28) c (costS (gA σ 11 c) (nI i) (gA σ 19 c))) S 0 = true then (1 : Int32) <<< ((nI i - 1) &&& 31) else 0)) ?_ ?_ 9 fu 0 1 rfl (by omega)).trans rfl
  · intro n acc i hi
    show Gu_possibleNeeds_L4 fu (nI c) σ _ (n + 1) acc (nI i) = _
    rw [Gu_possibleNeeds_L4, if_neg (nI9 hi), costAtNeed5 hc, bindV_some, Si_allow_is hS hS8 hfu, bindV_some, nI_1]
    cases allB (okP (gA σ 24) (gA σ 26) (gA σ 28) c (costS (gA σ 11 c) (nI i) (gA σ 19 c))) S 0 with
    | false => rw [if_pos (by rfl)]; simp [or0]
    | true => rw [if_neg (by decide)]; rfl
  · intro n acc
    show Gu_possibleNeeds_L4 fu (nI c) σ _ (n + 1) acc (nI 10) = _
    rw [Gu_possibleNeeds_L4, if_pos (by decide)]
theorem sh_pred : ∀ i, 1 ≤ i → i < 10 → (1 : Int32) <<< ((nI i - 1) &&& 31) = nI (2 ^ (i - 1)) := by
  have h : ∀ i, i < 10 → 1 ≤ i → (1 : Int32) <<< ((nI i - 1) &&& 31) = nI (2 ^ (i - 1)) := by decide +kernel
  intro i h1 h2
  exact h i h2 h1
theorem needS_rng (ok : Nat → Bool) : ∃ m, needS ok = nI m ∧ m < 512 := by
  have h := fo_inv (f := fun i a => a ||| (if ok i = true then (1 : Int32) <<< ((nI i - 1) &&& 31) else 0)) (fun i a => 1 ≤ i ∧ ∃ m, a = nI m ∧ m < 2 ^ 9) 9 1 0 ⟨by omega, 0, rfl, by decide⟩ ?_
  · exact h.2
  · rintro j a h1 h2 ⟨-, m, rfl, h3⟩
    refine ⟨by omega, ?_⟩
    show ∃ m', nI m ||| (if ok j = true then (1 : Int32) <<< ((nI j - 1) &&& 31) else 0) = nI m' ∧ m' < 2 ^ 9
    by_cases q : ok j = true
    · rw [if_pos q, sh_pred j h1 (by omega), nI_or]
      exact ⟨_, rfl, Nat.or_lt_two_pow h3 (Nat.pow_lt_pow_right (by decide) (by omega))⟩
    · rw [if_neg q, or0]
      exact ⟨m, rfl, h3⟩
theorem bitCount9 : ∀ m, m < 512 → In_bitCount (nI m) = some (sizeS (nI m)) := by decide +kernel
theorem sizeS9 : ∀ m, m < 512 → (List.range 10).any (fun s => sizeS (nI m) == nI s) = true := by decide +kernel
def cntS (co : Nat → Int32) (bits b : Int32) : Int32 := fo (fun i a => a + (if hasX bits (nI i - 1) = true ∧ ¬ b < co i then 1 else 0)) 9 1 0
def worstS (co : Nat → Int32) (bits b : Int32) : Int32 := if cntS co bits b < sizeS bits - cntS co bits b then sizeS bits - cntS co bits b else cntS co bits b
theorem cnt_rng (co : Nat → Int32) (bits b : Int32) : ∃ k, cntS co bits b = nI k ∧ k < 10 := by
  have h := fo_inv (f := fun i a => a + (if hasX bits (nI i - 1) = true ∧ ¬ b < co i then 1 else 0)) (fun i a => ∃ m, a = nI m ∧ m < i) 9 1 0 ⟨0, rfl, by decide⟩ ?_
  · exact h
  · rintro j a h1 h2 ⟨m, rfl, h3⟩
    show ∃ m', nI m + (if hasX bits (nI j - 1) = true ∧ ¬ b < co j then 1 else 0) = nI m' ∧ m' < j + 1
    by_cases q : hasX bits (nI j - 1) = true ∧ ¬ b < co j
    · rw [if_pos q, nI_1]; exact ⟨_, rfl, by omega⟩
    · rw [if_neg q, show (0 : Int32) = nI 0 from rfl, nI_add]; exact ⟨_, rfl, by omega⟩
theorem worst_lt : ∀ s, s < 10 → ∀ k, k < 10 → (if nI k < nI s - nI k then nI s - nI k else nI k) < 10 ∧ (if nI k < nI s - nI k then nI s - nI k else nI k) < 268435456 := by decide +kernel
theorem worst_rng (co : Nat → Int32) {m : Nat} (hm : m < 512) (b : Int32) : worstS co (nI m) b < 10 ∧ worstS co (nI m) b < 268435456 := by
  obtain ⟨k, k1, k2⟩ := cnt_rng co (nI m) b
  have h := sizeS9 m hm
  rw [List.any_eq_true] at h
  obtain ⟨s, s1, s2⟩ := h
  rw [worstS, k1, eq_of_beq s2]
  exact worst_lt s (List.mem_range.mp s1) k k2
theorem Gu_leftAtWorst_is {σ : Sg} {fu : Nat} (hfu : 1000 ≤ fu) {c m : Nat} (hc : c < 7) (hm : m < 512) (b : Int32) : Gu_leftAtWorst fu σ (nI c) (nI m) b = some (worstS (fun i => costS (gA σ 11 c) (nI i) (gA σ 19 c)) (nI m) b) := by
  rw [Gu_leftAtWorst]
  refine (loop_f0 (N := 10) (L := fun n acc i => Gu_leftAtWorst_L6 fu (nI c) (nI m) b σ (fun l4_6 l5_7 => bindV (In_bitCount (nI m)) fun r8 => some (if l4_6 < (r8 - l4_6) then r8 - l4_6 else l4_6)) n acc i) (kont := fun a _ => bindV (In_bitCount (nI m)) fun r8 => some (if a < (r8 - a) then r8 - a else a)) (f := fun i a => a + (if hasX (nI m) (nI i - 1) = true ∧ ¬ b < costS (gA σ 11 c) (nI i) (gA σ 19 c) then 1 else 0)) ?_ ?_ 9 fu 0 1 rfl (by omega)).trans ?_
  · intro n acc i hi
    show Gu_leftAtWorst_L6 fu (nI c) (nI m) b σ _ (n + 1) acc (nI i) = _
    rw [Gu_leftAtWorst_L6, if_neg (nI9 hi), costAtNeed5 hc, bindV_some, Co_has_is, bindV_some, nI_1]
    by_cases h1 : b < costS (gA σ 11 c) (nI i) (gA σ 19 c)
    · simp [h1]
    · cases hasX (nI m) (nI i - 1) <;> simp [h1, b2]
  · intro n acc
    show Gu_leftAtWorst_L6 fu (nI c) (nI m) b σ _ (n + 1) acc (nI 10) = _
    rw [Gu_leftAtWorst_L6, if_pos (by decide)]
  · show bindV (In_bitCount (nI m)) _ = _
    rw [bitCount9 m hm, bindV_some]
    rfl
def tryF (co : Nat → Int32) (bits : Int32) (j : Nat) (a : Int32 × Int32) : Int32 × Int32 := if a.2 ≤ worstS co bits (nI j) then a else (nI j, worstS co bits (nI j))
def tryS (co : Nat → Int32) (bits : Int32) : Int32 × Int32 := fo (tryF co bits) 17 2 (1, worstS co bits 1)
theorem first_try {w x : Int32} (h : w < x) : ¬ x ≤ w := Int32.not_le.mpr h
theorem Gu_bestTry_is {σ : Sg} {fu : Nat} (hfu : 1000 ≤ fu) {c m : Nat} (hc : c < 7) (hm : m < 512) (hp : Gu_possibleNeeds fu σ (nI c) = some (nI m)) : Gu_bestTry fu σ (nI c) = some (if nI m = 0 then -1 else (tryS (fun i => costS (gA σ 11 c) (nI i) (gA σ 19 c)) (nI m)).1) := by
  rw [Gu_bestTry, hp, bindV_some]
  by_cases h0 : nI m = 0
  · rw [if_neg (fun z => z h0), if_pos h0]
  rw [if_pos h0, if_neg h0]
  have hs : ∀ n (acc : Int32 × Int32) i, i < 19 → Gu_bestTry_L21 fu (nI c) (nI m) σ (fun l3_6 l4_7 l5_8 => some l3_6) (n + 1) acc.1 acc.2 (nI i) = Gu_bestTry_L21 fu (nI c) (nI m) σ (fun l3_6 l4_7 l5_8 => some l3_6) n (tryF (fun i => costS (gA σ 11 c) (nI i) (gA σ 19 c)) (nI m) i acc).1 (tryF (fun i => costS (gA σ 11 c) (nI i) (gA σ 19 c)) (nI m) i acc).2 (nI (i + 1)) := by
    intro n acc i hi
    rw [Gu_bestTry_L21, if_neg (nI18 hi), Gu_leftAtWorst_is hfu hc hm, bindV_some, nI_1, tryF]
    by_cases h : acc.2 ≤ worstS (fun i => costS (gA σ 11 c) (nI i) (gA σ 19 c)) (nI m) (nI i)
    · simp [h]
    · simp [h]
  obtain ⟨fu', rfl⟩ : ∃ k, fu = k + 1 := ⟨fu - 1, by omega⟩
  refine (hs fu' (-1, 10) 1 (by omega)).trans ?_
  have e : tryF (fun i => costS (gA σ 11 c) (nI i) (gA σ 19 c)) (nI m) 1 (-1, 10) = (1, worstS (fun i => costS (gA σ 11 c) (nI i) (gA σ 19 c)) (nI m) 1) := if_neg (first_try (worst_rng _ hm _).1)
  rw [e]
  refine (loop_f0 (N := 19) (L := fun n (acc : Int32 × Int32) i => Gu_bestTry_L21 (fu' + 1) (nI c) (nI m) σ (fun l3_6 l4_7 l5_8 => some l3_6) n acc.1 acc.2 i) (kont := fun a _ => some a.1) hs ?_ 17 fu' (1, worstS (fun i => costS (gA σ 11 c) (nI i) (gA σ 19 c)) (nI m) 1) 2 rfl (by omega)).trans rfl
  intro n acc
  show Gu_bestTry_L21 (fu' + 1) (nI c) (nI m) σ _ (n + 1) acc.1 acc.2 (nI 19) = _
  rw [Gu_bestTry_L21, if_pos (by decide)]
theorem maxS (r s l : Int32) : (if l ≤ (r - l) then (if s ≤ (r - l) then true else false) else (if s ≤ l then true else false)) = decide (s ≤ (if l < r - l then r - l else l)) := by
  by_cases h1 : l < r - l
  · rw [if_pos (Int32.le_of_lt h1), if_pos h1]
    by_cases h : s ≤ r - l <;> simp [h]
  · rw [if_neg h1]
    by_cases h2 : l ≤ r - l
    · have e : r - l = l := Int32.le_antisymm (Int32.not_lt.mp h1) h2
      rw [if_pos h2, e]
      by_cases h : s ≤ l <;> simp [h]
    · rw [if_neg h2]
      by_cases h : s ≤ l <;> simp [h]
