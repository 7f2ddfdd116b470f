/-! THE GAME -/
theorem vw_gF {s σ : Sg} (h : vw s = vw σ) {k j : Nat} (hr : relF k j = true) : gF s k j = gF σ k j := by
  have e : (vw s).1 k j = (vw σ).1 k j := by rw [h]
  have e1 : ∀ τ : Sg, (vw τ).1 k j = gF τ k j := fun τ => by
    show (if relF k j = true then τ.1 k j else 0) = τ.1 k j
    rw [if_pos hr]
  rw [e1, e1] at e
  exact e
theorem vw_gA {s σ : Sg} (h : vw s = vw σ) {k : Nat} (hr : relA k = true) : gA s k = gA σ k := by
  funext i
  have e : (vw s).2.1 k i = (vw σ).2.1 k i := by rw [h]
  have e1 : ∀ τ : Sg, (vw τ).2.1 k i = gA τ k i := fun τ => by
    show (if relA k = true then τ.2.1 k i else 0) = τ.2.1 k i
    rw [if_pos hr]
  rw [e1, e1] at e
  exact e
theorem loop_ex {α β : Type} {L : Nat → α → Int32 → Option β} {kont : α → Int32 → Option β} {N : Nat} (I : Nat → α → Prop) (hs : ∀ n acc i, i < N → I i acc → ∃ acc', L (n + 1) acc (nI i) = L n acc' (nI (i + 1)) ∧ I (i + 1) acc') (hx : ∀ n acc, I N acc → L (n + 1) acc (nI N) = kont acc (nI N)) :
    ∀ (m n : Nat) (acc : α) (i : Nat), i + m = N → m < n → I i acc → ∃ acc', I N acc' ∧ L n acc (nI i) = kont acc' (nI N) := by
  intro m
  induction m with
  | zero =>
    intro n acc i hi hn hI
    obtain ⟨n, rfl⟩ : ∃ k, n = k + 1 := ⟨n - 1, by omega⟩
    rw [Nat.add_zero] at hi
    subst hi
    exact ⟨acc, hI, hx n acc hI⟩
  | succ m ih =>
    intro n acc i hi hn hI
    obtain ⟨n, rfl⟩ : ∃ k, n = k + 1 := ⟨n - 1, by omega⟩
    obtain ⟨acc', h1, h2⟩ := hs n acc i (by omega) hI
    rw [h1]
    exact ih n acc' (i + 1) (by omega) (by omega) h2
theorem sub1 (x : Int32) : x + (-1) = x - 1 := (Int32.sub_eq_add_neg x 1).symm
theorem loop_down {α β : Type} {L : Nat → α → Int32 → Option β} {kont : α → Int32 → Option β} {M : Nat} (I : Nat → α → Prop) (hs : ∀ n acc i, i < M → I (i + 1) acc → ∃ acc', L (n + 1) acc (nI i) = L n acc' (nI i - 1) ∧ I i acc') (hx : ∀ n acc, I 0 acc → L (n + 1) acc (-1) = kont acc (-1)) :
    ∀ (m n : Nat) (acc : α), m ≤ M → m < n → I m acc → ∃ acc', I 0 acc' ∧ L n acc (nI m - 1) = kont acc' (-1) := by
  intro m
  induction m with
  | zero =>
    intro n acc hm hn hI
    obtain ⟨n, rfl⟩ : ∃ k, n = k + 1 := ⟨n - 1, by omega⟩
    exact ⟨acc, hI, hx n acc hI⟩
  | succ m ih =>
    intro n acc hm hn hI
    obtain ⟨n, rfl⟩ : ∃ k, n = k + 1 := ⟨n - 1, by omega⟩
    rw [nI_pred]
    obtain ⟨acc', h1, h2⟩ := hs n acc m (by omega) hI
    rw [h1]
    exact ih n acc' (by omega) (by omega) h2
def sumX (co : Nat → Int32) (N x : Nat) : Int32 := fo (fun i a => a + (if hasX (nI x) (nI i) = true then co i else 0)) N 0 0
theorem sumX_rng {co : Nat → Int32} {N : Nat} (x : Nat) (hN : N ≤ 7) (hco : ∀ i, i < N → ∃ q, co i = nI q ∧ q ≤ 18) : ∃ q, sumX co N x = nI q ∧ q < 127 := by
  have h := fo_inv (f := fun i a => a + (if hasX (nI x) (nI i) = true then co i else 0)) (fun i a => ∃ q, a = nI q ∧ q ≤ 18 * i) N 0 0 ⟨0, rfl, by omega⟩ ?_
  · obtain ⟨q, h1, h2⟩ := h
    exact ⟨q, h1, by omega⟩
  · rintro j a h1 h2 ⟨q, rfl, h3⟩
    obtain ⟨p, p1, p2⟩ := hco j (by omega)
    show ∃ q', nI q + (if hasX (nI x) (nI j) = true then co j else 0) = nI q' ∧ _
    by_cases hh : hasX (nI x) (nI j) = true
    · rw [if_pos hh, p1, nI_add]; exact ⟨_, rfl, by omega⟩
    · rw [if_neg hh, show (0 : Int32) = nI 0 from rfl, nI_add]; exact ⟨_, rfl, by omega⟩
def bsF (op : Nat → Bool) (V : Nat → Int32) (i : Nat) (a : Int32 × Int32) : Int32 × Int32 := if op i = true then (if a.2 = -1 then (V i, nI i) else if V i ≤ a.1 then a else (V i, nI i)) else a
def bst (op : Nat → Bool) (V : Nat → Int32) (N : Nat) : Int32 × Int32 := fo (bsF op V) N 0 (0, -1)
def bsI (op : Nat → Bool) (V : Nat → Int32) (i : Nat) (a : Int32 × Int32) : Prop := a = (0, -1) ∨ ∃ j, j < i ∧ a = (V j, nI j) ∧ op j = true
theorem bsI_step {op : Nat → Bool} {V : Nat → Int32} {i : Nat} {a : Int32 × Int32} (h : bsI op V i a) : bsI op V (i + 1) (bsF op V i a) := by
  have h' : bsI op V (i + 1) a := by
    rcases h with h | ⟨j, h1, h2, h3⟩
    · exact Or.inl h
    · exact Or.inr ⟨j, by omega, h2, h3⟩
  rw [bsF]
  cases ho : op i with
  | false => rw [if_neg (by decide)]; exact h'
  | true =>
    rw [if_pos rfl]
    split
    · exact Or.inr ⟨i, by omega, rfl, ho⟩
    · split
      · exact h'
      · exact Or.inr ⟨i, by omega, rfl, ho⟩
theorem bst_I (op : Nat → Bool) (V : Nat → Int32) (N : Nat) : bsI op V N (bst op V N) := by
  have h := fo_inv (f := bsF op V) (bsI op V) N 0 (0, -1) (Or.inl rfl) (fun j b _ _ hb => bsI_step hb)
  rw [Nat.zero_add] at h
  exact h
theorem bst_cong {op : Nat → Bool} {V W : Nat → Int32} {N : Nat} (h : ∀ i, i < N → op i = true → V i = W i) : bst op V N = bst op W N := by
  refine fo_cong N 0 _ (fun j b h1 h2 => ?_)
  rw [bsF, bsF]
  by_cases ho : op j = true
  · rw [if_pos ho, if_pos ho, h j (by omega) ho]
  · rw [if_neg ho, if_neg ho]
/-- which cases may be next: open, and within what is left -/
def gOp (ki ha co : Nat → Int32) (be : Int32) (N m x : Nat) (i : Nat) : Bool := openS ki ha (nI (m ||| x)) i && !decide (be < sumX co N x + co i)
def gV (wo L : Nat → Int32) (x i : Nat) : Int32 := wo i - L (x ||| 2 ^ i)
theorem gOp_clear {ki ha co : Nat → Int32} {be : Int32} {N m x i : Nat} (hi : i < 31) (h : gOp ki ha co be N m x i = true) : x.testBit i = false := by
  rw [gOp, Bool.and_eq_true] at h
  have h1 := h.1
  rw [openS, Bool.and_eq_true, hasX_nI _ (by omega), Nat.testBit_or] at h1
  have h2 := h1.1
  cases hx : x.testBit i with
  | false => rfl
  | true => rw [hx] at h2; simp at h2
theorem or_gt {x i : Nat} (h : x.testBit i = false) : x < x ||| 2 ^ i := by
  have h1 : x ≤ x ||| 2 ^ i := Nat.left_le_or
  have h2 : x ≠ x ||| 2 ^ i := by
    intro e
    have : (x ||| 2 ^ i).testBit i = true := by rw [Nat.testBit_or, Nat.testBit_two_pow]; simp
    rw [← e, h] at this
    cases this
  omega
theorem left_two : ∀ be, be < 21 → ∀ ci, ci < 127 → ∀ co, co < 19 → decide (nI be - nI ci < nI co) = decide (nI be < nI ci + nI co) := by
  intro be h1 ci h2 co h3
  have e1 : (nI be - nI ci : Int32).toInt = (be : Int) - ci := by
    rw [Int32.toInt_sub, nI_toInt (by omega), nI_toInt (by omega)]
    rw [Int.bmod_def]
    split <;> omega
  have e2 : (nI ci + nI co : Int32).toInt = (ci : Int) + co := by rw [nI_add, nI_toInt (by omega)]; omega
  have e3 : (nI co : Int32).toInt = (co : Int) := nI_toInt (by omega)
  have e4 : (nI be : Int32).toInt = (be : Int) := nI_toInt (by omega)
  rw [decide_eq_decide, Int32.lt_iff_toInt_lt, Int32.lt_iff_toInt_lt, e1, e2, e3, e4]
  omega
theorem gA_sF1 (σ : Sg) (k j a : Nat) (v : Int32) : gA (sF σ k j v) a = gA σ a := rfl
theorem sF_sF (σ : Sg) (k j : Nat) (a b : Int32) : sF (sF σ k j a) k j b = sF σ k j b := by
  refine Prod.ext ?_ rfl
  funext x y
  show (if x = k ∧ y = j then b else if x = k ∧ y = j then a else σ.1 x y) = if x = k ∧ y = j then b else σ.1 x y
  by_cases h : x = k ∧ y = j
  · rw [if_pos h, if_pos h]
  · rw [if_neg h, if_neg h, if_neg h]
theorem Cn_costOf_is {σ : Sg} {N fu x : Nat} (hN : gF σ 5 1 = nI N) (hN7 : N ≤ 7) (hfu : 1000 ≤ fu) {co : Nat → Int32} (hco : ∀ i, i < N → gA σ 65 i = co i) : Cn_costOf fu σ (nI x) = some (sumX co N x) := by
  rw [Cn_costOf, show (0 : Int32) = nI 0 from rfl]
  refine (loop_f0 (N := N) (L := fun n acc i => Cn_costOf_L4 fu (nI x) σ (fun l2_6 l3_7 => some l2_6) n acc i) (kont := fun a _ => some a) (f := fun i a => a + (if hasX (nI x) (nI i) = true then co i else 0)) ?_ ?_ N fu (nI 0) 0 (Nat.zero_add N) (by omega)).trans rfl
  · intro n acc i hi
    show Cn_costOf_L4 fu (nI x) σ _ (n + 1) acc (nI i) = _
    rw [Cn_costOf_L4, Sh_suits, bindV_some, hN, if_neg (nI_ge hi (by omega)), Co_has_is, bindV_some, nI_1, Rw_at_in (n := 7) rfl (by omega) (by decide), bindV_some, hco i hi]
    cases hasX (nI x) (nI i) with
    | false => rw [if_pos (by rfl)]; rfl
    | true => rw [if_neg (by decide)]; rfl
  · intro n acc
    show Cn_costOf_L4 fu (nI x) σ _ (n + 1) acc (nI N) = _
    rw [Cn_costOf_L4, Sh_suits, bindV_some, hN, if_pos (Int32.le_refl _)]
theorem Cn_bestLead_is {σ : Sg} {N fu x m be : Nat} (hN : gF σ 5 1 = nI N) (hN7 : N ≤ 7) (hfu : 1000 ≤ fu) {co : Nat → Int32} (hco : ∀ i, i < N → gA σ 65 i = co i) (hcr : ∀ i, i < N → ∃ q, co i = nI q ∧ q ≤ 18) (hm : gF σ 5 11 = nI m) (hx : x < 2 ^ N) (hbe : gF σ 61 3 = nI be) (hbe2 : be ≤ 20) : Cn_bestLead fu σ (nI x) = some ((bst (gOp (gA σ 11) (gA σ 17) co (nI be) N m x) (gV (gA σ 15) (gA σ 63) x) N).1, sF σ 61 4 (bst (gOp (gA σ 11) (gA σ 17) co (nI be) N m x) (gV (gA σ 15) (gA σ 63) x) N).2) := by
  have h7 : 2 ^ N ≤ 2 ^ 7 := Nat.pow_le_pow_right (by decide) hN7
  obtain ⟨q, q1, q2⟩ := sumX_rng x hN7 hcr
  rw [Cn_bestLead, Cn_costOf_is hN hN7 hfu hco, bindV_some, hbe, show (0 : Int32) = nI 0 from rfl]
  refine (loop_f0 (N := N) (L := fun n (acc : Int32 × Int32) i => Cn_bestLead_L21 fu (nI x) (nI be - sumX co N x) (fun l3_14 l4_15 s16 => some (l3_14, s16)) n acc.1 i (sF σ 61 4 acc.2)) (kont := fun a _ => some (a.1, sF σ 61 4 a.2)) (f := bsF (gOp (gA σ 11) (gA σ 17) co (nI be) N m x) (gV (gA σ 15) (gA σ 63) x)) ?_ ?_ N fu (0, -1) 0 (Nat.zero_add N) (by omega)).trans rfl
  · intro n acc i hi
    show Cn_bestLead_L21 fu (nI x) (nI be - sumX co N x) _ (n + 1) acc.1 (nI i) (sF σ 61 4 acc.2) = _
    obtain ⟨p, p1, p2⟩ := hcr i hi
    have elt := left_two be (by omega) q (by omega) p (by omega)
    have hN' : gF (sF σ 61 4 acc.2) 5 1 = nI N := hN
    have hm' : gF (sF σ 61 4 acc.2) 5 11 = nI m := hm
    have ho' : gF (sF σ 61 4 acc.2) 61 4 = acc.2 := by rw [gF_sF, if_pos ⟨rfl, rfl⟩]
    have hcoi : gA (sF σ 61 4 acc.2) 65 i = nI p := by rw [gA_sF, hco i hi, p1]
    have eop : gOp (gA σ 11) (gA σ 17) co (nI be) N m x i = (openS (gA σ 11) (gA σ 17) (nI (m ||| x)) i && !decide (nI be - nI q < nI p)) := by rw [gOp, q1, p1, elt]
    obtain ⟨o, ho⟩ : ∃ o, openS (gA σ 11) (gA σ 17) (nI (m ||| x)) i = o := ⟨_, rfl⟩
    have eo : Sh_isOpen (sF σ 61 4 acc.2) 5 (nI i) (nI (m ||| x)) = some (b2 o) := by
      rw [isOpen5 (by omega)]
      show some (b2 (openS (gA σ 11) (gA σ 17) (nI (m ||| x)) i)) = _
      rw [ho]
    rw [ho] at eop
    rw [Cn_bestLead_L21, Sh_suits, bindV_some, hN', if_neg (nI_ge hi (by omega)), Sh_righted, bindV_some, hm', nI_or, eo, bindV_some, bsF, eop, nI_1, q1]
    cases o with
    | false => rw [if_pos (by rfl)]; rfl
    | true =>
      rw [if_neg (by decide), Rw_at_in (n := 7) rfl (by omega) (by decide), bindV_some, hcoi, Bool.true_and]
      by_cases hl : nI be - nI q < nI p
      · rw [if_pos hl]; simp [hl]
      · have hgo : gOp (gA σ 11) (gA σ 17) co (nI be) N m x i = true := by rw [eop]; simp [hl]
        have hlt : x ||| 2 ^ i < 2 ^ N := Nat.or_lt_two_pow hx (Nat.pow_lt_pow_right (by decide) hi)
        rw [if_neg hl, Sh_worth, at_wo5 (by omega), bindV_some, bindV_some, Co_bit_is, bindV_some, bitI_is i (by omega), nI_or, Rw_at_in (n := 128) rfl (by omega) (by decide), bindV_some, ho']
        simp only [sF_sF, gA_sF1]
        rw [show (!decide (nI be - nI q < nI p)) = true by simp [hl], if_pos rfl]
        show _ = Cn_bestLead_L21 fu (nI x) (nI be - nI q) _ n (if acc.2 = -1 then (gV (gA σ 15) (gA σ 63) x i, nI i) else if gV (gA σ 15) (gA σ 63) x i ≤ acc.1 then acc else (gV (gA σ 15) (gA σ 63) x i, nI i)).1 (nI (i + 1)) (sF σ 61 4 (if acc.2 = -1 then (gV (gA σ 15) (gA σ 63) x i, nI i) else if gV (gA σ 15) (gA σ 63) x i ≤ acc.1 then acc else (gV (gA σ 15) (gA σ 63) x i, nI i)).2)
        rw [gV]
        by_cases h1 : acc.2 = -1
        · rw [if_pos h1, if_pos h1]
        · rw [if_neg h1, if_neg h1]
          by_cases h2 : gA σ 15 i - gA σ 63 (x ||| 2 ^ i) ≤ acc.1
          · rw [if_pos h2, if_pos h2]
          · rw [if_neg h2, if_neg h2]
  · intro n acc
    show Cn_bestLead_L21 fu (nI x) (nI be - sumX co N x) _ (n + 1) acc.1 (nI N) (sF σ 61 4 acc.2) = _
    have hN' : gF (sF σ 61 4 acc.2) 5 1 = nI N := hN
    rw [Cn_bestLead_L21, Sh_suits, bindV_some, hN', if_pos (Int32.le_refl _)]
theorem Mo_costIn_is {σ : Sg} {N fu x : Nat} (hN : gF σ 91 2 = nI N) (hN7 : N ≤ 7) (hfu : 1000 ≤ fu) : Mo_costIn fu σ (nI x) = some (sumX (fun c => costS (gA σ 94 c) (gA σ 95 c) (strS (gA σ 97) N c)) N x) := by
  rw [Mo_costIn, show (0 : Int32) = nI 0 from rfl]
  refine (loop_f0 (N := N) (L := fun n acc i => Mo_costIn_L4 fu (nI x) σ (fun l2_5 l3_6 => some l2_5) n acc i) (kont := fun a _ => some a) (f := fun i a => a + (if hasX (nI x) (nI i) = true then costS (gA σ 94 i) (gA σ 95 i) (strS (gA σ 97) N i) else 0)) ?_ ?_ N fu (nI 0) 0 (Nat.zero_add N) (by omega)).trans rfl
  · intro n acc i hi
    show Mo_costIn_L4 fu (nI x) σ _ (n + 1) acc (nI i) = _
    rw [Mo_costIn_L4, hN, if_neg (nI_ge hi (by omega)), Mo_isIn_is, bindV_some, nI_1, Mo_cost_is hN hN7 hfu (by omega), bindV_some]
    cases hasX (nI x) (nI i) with
    | false => rw [if_pos (by rfl)]; rfl
    | true => rw [if_neg (by decide)]; rfl
  · intro n acc
    show Mo_costIn_L4 fu (nI x) σ _ (n + 1) acc (nI N) = _
    rw [Mo_costIn_L4, hN, if_pos (Int32.le_refl _)]
theorem Mo_bestNext_is {σ : Sg} {N fu x m u : Nat} (hN : gF σ 91 2 = nI N) (hN7 : N ≤ 7) (hfu : 1000 ≤ fu) {co : Nat → Int32} (hco : ∀ i, i < N → costS (gA σ 94 i) (gA σ 95 i) (strS (gA σ 97) N i) = co i) (hm : gF σ 91 9 = nI m) (hx : x < 2 ^ N) (hu : u < 3) : Mo_bestNext fu σ (nI u) (nI x) = some (bst (gOp (gA σ 94) (gA σ 97) co (gA σ 92 u) N m x) (gV (gA σ 96) (gA σ 105) x) N).2 := by
  have h7 : 2 ^ N ≤ 2 ^ 7 := Nat.pow_le_pow_right (by decide) hN7
  have hsum : sumX (fun c => costS (gA σ 94 c) (gA σ 95 c) (strS (gA σ 97) N c)) N x = sumX co N x := fo_cong N 0 0 (fun j b h1 h2 => by have e := hco j (by omega); simp only [e])
  have hor : ∀ i, i < N → nI x ||| (1 : Int32) <<< (nI i &&& 31) = nI (x ||| 2 ^ i) ∧ x ||| 2 ^ i < 128 := fun i hi => by
    have hlt : x ||| 2 ^ i < 2 ^ N := Nat.or_lt_two_pow hx (Nat.pow_lt_pow_right (by decide) hi)
    refine ⟨?_, by omega⟩
    have e := bitI_is i (by omega)
    rw [bitI] at e
    rw [e, nI_or]
  rw [Mo_bestNext, show (0 : Int32) = nI 0 from rfl]
  refine (loop_fo (N := N) (L := fun n (acc : Int32 × Int32) i => Mo_bestNext_L5 fu (nI u) (nI x) σ (fun l3_10 l4_11 => some l3_10) n acc.2 i) (kont := fun a _ => some a.2) (f := bsF (gOp (gA σ 94) (gA σ 97) co (gA σ 92 u) N m x) (gV (gA σ 96) (gA σ 105) x)) (bsI (gOp (gA σ 94) (gA σ 97) co (gA σ 92 u) N m x) (gV (gA σ 96) (gA σ 105) x)) ?_ ?_ N fu (0, -1) 0 (Nat.zero_add N) (by omega) (Or.inl rfl)).trans rfl
  · intro n acc i hi hI
    refine ⟨?_, bsI_step hI⟩
    show Mo_bestNext_L5 fu (nI u) (nI x) σ _ (n + 1) acc.2 (nI i) = _
    have hmay : Mo_mayNext fu σ (nI u) (nI x) (nI i) = some (b2 (gOp (gA σ 94) (gA σ 97) co (gA σ 92 u) N m x i)) := by
      rw [Mo_mayNext, hm, nI_or, Mo_isOpen_is (by omega), bindV_some, gOp]
      cases openS (gA σ 94) (gA σ 97) (nI (m ||| x)) i with
      | false => rw [if_pos (by rfl)]; rfl
      | true =>
        rw [if_neg (by decide), Mo_costIn_is hN hN7 hfu, bindV_some, Mo_cost_is hN hN7 hfu (by omega), bindV_some, if_pos (inb_nI hu (by decide)), ix_nI (by omega), hsum, hco i hi]
        by_cases hl : gA σ 92 u < sumX co N x + co i
        · rw [if_pos hl]; simp [hl, b2]
        · rw [if_neg hl]; simp [hl, b2]
    have hi1 : inb (nI i) 7 = true := inb_nI (by omega) (by decide)
    have hi2 : inb (nI (x ||| 2 ^ i)) 128 = true := inb_nI (hor i hi).2 (by decide)
    have hi3 : ix (nI i) = i := ix_nI (by omega)
    have hi4 : ix (nI (x ||| 2 ^ i)) = x ||| 2 ^ i := ix_nI (by have := (hor i hi).2; omega)
    rw [Mo_bestNext_L5, hN, if_neg (nI_ge hi (by omega)), hmay, bindV_some, nI_1, bsF]
    cases gOp (gA σ 94) (gA σ 97) co (gA σ 92 u) N m x i with
    | false => rw [if_pos (by rfl), if_pos (by rfl)]; rfl
    | true =>
      rw [if_neg (by decide), if_pos hi1, (hor i hi).1, if_pos hi2, if_neg (by decide), hi3, hi4, if_pos rfl]
      rcases hI with rfl | ⟨j, hj, rfl, -⟩
      · rw [if_pos rfl, if_pos rfl]
      · have hne : ¬ nI j = -1 := by
          intro e
          have := congrArg Int32.toInt e
          rw [nI_toInt (by omega)] at this
          rw [show ((-1 : Int32)).toInt = -1 by decide] at this
          omega
        have hj1 : inb (nI j) 7 = true := inb_nI (by omega) (by decide)
        have hj2 : inb (nI (x ||| 2 ^ j)) 128 = true := inb_nI (hor j (by omega)).2 (by decide)
        have hj3 : ix (nI j) = j := ix_nI (by omega)
        have hj4 : ix (nI (x ||| 2 ^ j)) = x ||| 2 ^ j := ix_nI (by have := (hor j (by omega)).2; omega)
        show (if nI j = -1 then _ else _) = _
        rw [if_neg hne, if_neg hne]
        show (if inb (nI j) 7 = true then _ else _) = _
        rw [if_pos hj1, (hor j (by omega)).1, if_pos hj2, hj3, hj4]
        show (if gV (gA σ 96) (gA σ 105) x i ≤ gV (gA σ 96) (gA σ 105) x j then _ else _) = _
        by_cases hle : gV (gA σ 96) (gA σ 105) x i ≤ gV (gA σ 96) (gA σ 105) x j
        · rw [if_pos hle]
          show _ = Mo_bestNext_L5 fu (nI u) (nI x) σ _ n (if gV (gA σ 96) (gA σ 105) x i ≤ gV (gA σ 96) (gA σ 105) x j then (gV (gA σ 96) (gA σ 105) x j, nI j) else (gV (gA σ 96) (gA σ 105) x i, nI i)).2 (nI (i + 1))
          rw [if_pos hle]
        · rw [if_neg hle]
          show _ = Mo_bestNext_L5 fu (nI u) (nI x) σ _ n (if gV (gA σ 96) (gA σ 105) x i ≤ gV (gA σ 96) (gA σ 105) x j then (gV (gA σ 96) (gA σ 105) x j, nI j) else (gV (gA σ 96) (gA σ 105) x i, nI i)).2 (nI (i + 1))
          rw [if_neg hle]
  · intro n acc hI
    show Mo_bestNext_L5 fu (nI u) (nI x) σ _ (n + 1) acc.2 (nI N) = _
    rw [Mo_bestNext_L5, hN, if_pos (Int32.le_refl _)]
