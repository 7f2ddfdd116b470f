/-! WHAT IS SEEN: needs and tries -/
theorem or0 (x : Int32) : x ||| 0 = x := b_ext (fun i _ => by rw [b_or, b_0, Bool.or_false])
theorem sA_back (σ : Sg) (k i : Nat) (v : Int32) : sA (sA σ k i v) k i (gA σ k i) = σ := by
  refine Prod.ext rfl (Prod.ext ?_ rfl)
  funext a b
  show (if a = k ∧ b = i then gA σ k i else if a = k ∧ b = i then v else σ.2.1 a b) = σ.2.1 a b
  by_cases h : a = k ∧ b = i
  · rw [if_pos h, h.1, h.2]; rfl
  · rw [if_neg h, if_neg h]
theorem Mo_costWith_is {σ : Sg} {N fu : Nat} (hN : gF σ 91 2 = nI N) (hN7 : N ≤ 7) (hfu : 1000 ≤ fu) {c : Nat} (hc : c < 7) (n : Int32) : Mo_costWith fu σ (nI c) n = some (costS (gA σ 94 c) n (strS (gA σ 97) N c), σ) := by
  have hin : inb (nI c) 7 = true := inb_nI hc (by decide)
  have hix : ix (nI c) = c := ix_nI (by omega)
  rw [Mo_costWith]
  simp only [hin, if_true, hix]
  rw [Mo_cost_is (σ := sA σ 95 c n) hN hN7 hfu hc, bindV_some, sA_back]
  have e : gA (sA σ 95 c n) 95 c = n := by rw [gA_sA, if_pos ⟨rfl, rfl⟩]
  rw [e]
  rfl
def allB (p : Nat → Bool) (n i : Nat) : Bool := fo (fun j b => b && p j) n i true
theorem fo_false (p : Nat → Bool) : ∀ n i, fo (fun j b => b && p j) n i false = false
  | 0, _ => rfl
  | n + 1, i => by rw [fo, Bool.false_and]; exact fo_false p n (i + 1)
theorem allB_succ (p : Nat → Bool) (n i : Nat) : allB p (n + 1) i = (p i && allB p n (i + 1)) := by
  rw [allB, fo, Bool.true_and]
  cases h : p i with
  | true => rw [Bool.true_and]; rfl
  | false => rw [Bool.false_and]; exact fo_false p n (i + 1)
def okP (su be en : Nat → Int32) (c : Nat) (co : Int32) (i : Nat) : Bool := !(su i == nI c) || (!decide (be i < co) == (en i == 1))
theorem Si_allow_is {σ : Sg} {S fu : Nat} (hS : gF σ 22 3 = nI S) (hS8 : S ≤ 8) (hfu : 1000 ≤ fu) (c : Nat) (co : Int32) : Si_allow fu σ 22 (nI c) co = some (b2 (allB (okP (gA σ 24) (gA σ 26) (gA σ 28) c co) S 0)) := by
  have key : ∀ (m n i : Nat), i + m = S → m < n → Si_allow_L2 fu 22 (nI c) co σ (fun l3_16 => some (1 : Int32)) n (nI i) = some (b2 (allB (okP (gA σ 24) (gA σ 26) (gA σ 28) c co) m i)) := by
    intro m
    induction m with
    | zero =>
      intro n i hi hn
      obtain ⟨n, rfl⟩ : ∃ k, n = k + 1 := ⟨n - 1, by omega⟩
      rw [Nat.add_zero] at hi
      subst hi
      rw [Si_allow_L2, hS, if_pos (Int32.le_refl _)]
      rfl
    | succ m ih =>
      intro n i hi hn
      obtain ⟨n, rfl⟩ : ∃ k, n = k + 1 := ⟨n - 1, by omega⟩
      have ih' := ih n (i + 1) (by omega) (by omega)
      rw [Si_allow_L2, hS, if_neg (nI_ge (by omega) (by omega)), Rw_at_in (n := 8) rfl (by omega) (by decide), bindV_some, Rw_at_in (n := 8) rfl (by omega) (by decide), bindV_some, Rw_at_in (n := 8) rfl (by omega) (by decide), bindV_some, nI_1, allB_succ, okP]
      rw [bindV_some, bindV_some, ih']
      simp only [show 22 + 3 + 1 = 26 from rfl, show 22 + 1 + 1 = 24 from rfl, show 22 + 5 + 1 = 28 from rfl]
      generalize allB (okP (gA σ 24) (gA σ 26) (gA σ 28) c co) m (i + 1) = rest
      by_cases h1 : gA σ 24 i = nI c <;> by_cases h2 : gA σ 26 i < co <;> by_cases h3 : gA σ 28 i = 1 <;> simp [h1, h2, h3, b2]
  rw [Si_allow, show (0 : Int32) = nI 0 from rfl]
  exact key S fu 0 (Nat.zero_add S) (by omega)
def needS (ok : Nat → Bool) : Int32 := fo (fun i a => a ||| (if ok i = true then bitI (i - 1) else 0)) 9 1 0
theorem nI9 {i : Nat} (h : i < 10) : ¬ 9 < nI i := by
  rw [show (9 : Int32) = nI 9 from rfl, nI_ltI (by omega) (by omega)]; omega
theorem nI18 {i : Nat} (h : i < 19) : ¬ 18 < nI i := by
  rw [show (18 : Int32) = nI 18 from rfl, nI_ltI (by omega) (by omega)]; omega
theorem Gu_possibleNeeds_is {σ : Sg} {S fu : Nat} (hS : gF σ 22 3 = nI S) (hS8 : S ≤ 8) (hfu : 1000 ≤ fu) {c : Nat} (hc : c < 7) : Gu_possibleNeeds fu σ (nI c) = some (needS (fun i => allB (okP (gA σ 24) (gA σ 26) (gA σ 28) c (costS (gA σ 11 c) (nI i) (gA σ 19 c))) S 0)) := by
  rw [Gu_possibleNeeds]
  refine (loop_f0 (N := 10) (L := fun n acc i => Gu_possibleNeeds_L4 fu (nI c) σ (fun l2_6 l3_7 => some l2_6) n acc i) (kont := fun a _ => some a) (f := fun i a => a ||| (if allB (okP (gA σ 24) (gA σ 26) (gA σ 28) c (costS (gA σ 11 c) (nI i) (gA σ 19 c))) S 0 = true then bitI (i - 1) else 0)) ?_ ?_ 9 fu 0 1 rfl (by omega)).trans rfl
  · intro n acc i hi
    show Gu_possibleNeeds_L4 fu (nI c) σ _ (n + 1) acc (nI i) = _
    rw [Gu_possibleNeeds_L4, if_neg (nI9 hi), costAtNeed5 hc, bindV_some, Si_allow_is hS hS8 hfu, bindV_some, nI_1]
    cases allB (okP (gA σ 24) (gA σ 26) (gA σ 28) c (costS (gA σ 11 c) (nI i) (gA σ 19 c))) S 0 with
    | false => rw [if_pos (by rfl)]; simp [or0]
    | true =>
      rw [if_neg (by decide)]
      cases i with
      | zero => exact (by rfl : _)
      | succ i => rw [nI_pred, Co_bit_is, bindV_some]; rfl
  · intro n acc
    show Gu_possibleNeeds_L4 fu (nI c) σ _ (n + 1) acc (nI 10) = _
    rw [Gu_possibleNeeds_L4, if_pos (by decide)]
