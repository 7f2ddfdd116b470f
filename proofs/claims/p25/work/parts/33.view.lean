/-! WHAT OF THE STATE COUNTS -/
/-! WHAT THE MODEL'S OWN WORDS ANSWER -/
theorem pick1 (x : Int32) : (if 1 ≤ x then x else 1) = (if 1 < x then x else 1) := by
  by_cases h : 1 < x
  · rw [if_pos h, if_pos (Int32.le_of_lt h)]
  · by_cases h2 : 1 ≤ x
    · rw [if_pos h2, if_neg h]
      exact Int32.le_antisymm (Int32.not_lt.mp h) h2
    · rw [if_neg h2, if_neg h]
theorem bitCount_is : ∀ m, m < 128 → In_bitCount (nI m) = some (sizeS (nI m)) := by decide +kernel
theorem possibleAt5 {σ : Sg} {N fu : Nat} (hN : gF σ 5 1 = nI N) (hN7 : N ≤ 7) (hfu : 1000 ≤ fu) {t : Nat} (ht : t < 3) : Sh_possibleAt fu σ 5 (nI t) = some (possS (openS (gA σ 11) (gA σ 17) (gF σ 5 11)) (fun c => costS (gA σ 11 c) (gA σ 13 c) (gA σ 19 c)) (gA σ 7 t) N) := by
  rw [Sh_possibleAt, show (0 : Int32) = nI 0 from rfl]
  refine (loop_f0 (N := N) (L := fun n acc i => Sh_possibleAt_L4 fu 5 (nI t) σ (fun l2_5 l3_6 => some l2_5) n acc i) (kont := fun a _ => some a) (f := fun i a => a ||| (if openS (gA σ 11) (gA σ 17) (gF σ 5 11) i = true ∧ ¬ gA σ 7 t < costS (gA σ 11 i) (gA σ 13 i) (gA σ 19 i) then bitI i else 0)) ?_ ?_ N fu (nI 0) 0 (Nat.zero_add N) (by omega)).trans rfl
  · intro n acc i hi
    show Sh_possibleAt_L4 fu 5 (nI t) σ _ (n + 1) acc (nI i) = _
    rw [Sh_possibleAt_L4, hN, if_neg (nI_ge hi (by omega)), isPossible5 (by omega) ht, bindV_some, nI_1]
    cases openS (gA σ 11) (gA σ 17) (gF σ 5 11) i with
    | false => rw [if_pos (by rfl)]; simp
    | true =>
      by_cases h : gA σ 7 t < costS (gA σ 11 i) (gA σ 13 i) (gA σ 19 i)
      · rw [if_pos (by simp [h, b2])]; simp [h]
      · rw [if_neg (by simp [h, b2]), Co_bit_is, bindV_some]; simp [h]
  · intro n acc
    show Sh_possibleAt_L4 fu 5 (nI t) σ _ (n + 1) acc (nI N) = _
    rw [Sh_possibleAt_L4, hN, if_pos (Int32.le_refl _)]

/-! WHAT HOLDS BETWEEN TWO CALLS: the class's shire and the model's are one -/
def rng (f : Nat → Int32) (n hi : Nat) : Prop := ∀ i, i < n → ∃ b, f i = nI b ∧ b ≤ hi
def hangOK (ha : Nat → Int32) (N : Nat) : Prop := ∀ i, i < N → ha i = -1 ∨ ∃ h, h < i ∧ ha i = nI h
/-- what of the state counts -/
def relF (k j : Nat) : Bool := k == 0 || k == 1 || k == 5 || k == 22
def relA (k : Nat) : Bool := decide (k ≤ 52) || decide (91 ≤ k)
def vw (σ : Sg) : Sg := (fun k j => if relF k j = true then σ.1 k j else 0, fun k i => if relA k = true then σ.2.1 k i else 0, fun _ _ => 0)
theorem vw_sF {σ : Sg} {k j : Nat} {v : Int32} (h : relF k j = false) : vw (sF σ k j v) = vw σ := by
  have e : (fun a b => if relF a b = true then (sF σ k j v).1 a b else (0 : Int32)) = fun a b => if relF a b = true then σ.1 a b else 0 := by
    funext a b
    by_cases hr : relF a b = true
    · rw [if_pos hr, if_pos hr]
      show (if a = k ∧ b = j then v else σ.1 a b) = σ.1 a b
      rw [if_neg]
      rintro ⟨rfl, rfl⟩
      rw [h] at hr
      cases hr
    · rw [if_neg hr, if_neg hr]
  show ((_, _, _) : Sg) = (_, _, _)
  rw [e]
  rfl
theorem vw_sA {σ : Sg} {k i : Nat} {v : Int32} (h : relA k = false) : vw (sA σ k i v) = vw σ := by
  have e : (fun a b => if relA a = true then (sA σ k i v).2.1 a b else (0 : Int32)) = fun a b => if relA a = true then σ.2.1 a b else 0 := by
    funext a b
    by_cases hr : relA a = true
    · rw [if_pos hr, if_pos hr]
      show (if a = k ∧ b = i then v else σ.2.1 a b) = σ.2.1 a b
      rw [if_neg]
      rintro ⟨rfl, -⟩
      rw [h] at hr
      cases hr
    · rw [if_neg hr, if_neg hr]
  show ((_, _, _) : Sg) = (_, _, _)
  rw [e]
  rfl
theorem vw_sL {σ : Sg} {k j : Nat} {v : Int64} : vw (sL σ k j v) = vw σ := rfl
def opQ (C M : Option Int32) : Prop := ∃ r, C = some r ∧ M = some r
theorem hasB {b : Bool} : (¬ b2 b = 0) ↔ b = true := by cases b <;> simp [b2]
theorem below1 {N : Nat} (hN : N ≤ 7) {c : Nat} (hc : c < N) : ¬ nI N - 1 < nI c := by
  rw [show (1 : Int32) = nI 1 from rfl, pk_sub (by omega), nI_ltI (by omega) (by omega)]
  omega
theorem below2 {N : Nat} (hN : N ≤ 7) {a : Int32} (h0 : ¬ a < 0) (h : nI N ≤ a) : nI N - 1 < a := by
  obtain ⟨c, hc, rfl⟩ := nI_of h0
  rw [nI_leI (by omega) hc] at h
  by_cases hz : N = 0
  · subst hz
    rw [Int32.lt_iff_toInt_lt]
    rw [nI_toInt hc]
    have : (nI 0 - 1 : Int32).toInt = -1 := by decide
    omega
  · rw [show (1 : Int32) = nI 1 from rfl, pk_sub (by omega), nI_ltI (by omega) hc]
    omega
