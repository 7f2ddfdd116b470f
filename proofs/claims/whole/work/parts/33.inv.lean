/-! WHAT HOLDS BETWEEN TWO CALLS: the class's shire and the model's are one -/
def rng (f : Nat → Int32) (n hi : Nat) : Prop := ∀ i, i < n → ∃ b, f i = nI b ∧ b ≤ hi
def hangOK (ha : Nat → Int32) (N : Nat) : Prop := ∀ i, i < N → ha i = -1 ∨ ∃ h, h < i ∧ ha i = nI h
def I1 (σ : Sg) (t N T R : Nat) : Prop := gF σ 5 1 = nI N ∧ gF σ 91 2 = nI N ∧ gF σ 5 0 = nI T ∧ gF σ 91 1 = nI T ∧ N ≤ 7 ∧ T ≤ 3 ∧ gF σ 0 9 = nI R ∧ gF σ 91 0 = nI R ∧ R ≤ t ∧ (R = 0 → N = 0 ∧ T = 0) ∧ (0 < R → 2 ≤ N ∧ 1 ≤ T)
def I2 (σ : Sg) (N : Nat) : Prop := (gA σ 7 = gA σ 92 ∧ gA σ 9 = gA σ 93 ∧ gA σ 11 = gA σ 94 ∧ gA σ 13 = gA σ 95 ∧ gA σ 15 = gA σ 96 ∧ gA σ 17 = gA σ 97) ∧ (rng (gA σ 7) 3 20 ∧ rng (gA σ 9) 3 9 ∧ rng (gA σ 11) 7 4 ∧ rng (gA σ 13) 7 9 ∧ rng (gA σ 15) 7 9 ∧ hangOK (gA σ 17) N) ∧ ∀ c, c < N → gA σ 19 c = strS (gA σ 17) N c ∧ gA σ 21 c = allS (gA σ 17) N c
def I3 (σ : Sg) (t N : Nat) : Prop := (∃ m, gF σ 5 11 = nI m ∧ gF σ 91 9 = nI m ∧ m < 2 ^ N) ∧ (∃ y, gF σ 5 12 = nI y ∧ gF σ 91 11 = nI y ∧ y ≤ t) ∧ ∃ o, gF σ 5 13 = nI o ∧ gF σ 91 10 = nI o ∧ o ≤ t
def I4 (σ : Sg) : Prop := (∃ S, gF σ 22 3 = nI S ∧ gF σ 91 13 = nI S ∧ S ≤ 8) ∧ gA σ 24 = gA σ 98 ∧ gA σ 26 = gA σ 99 ∧ gA σ 28 = gA σ 100
def I5 (σ : Sg) : Prop := (∃ P, gF σ 1 1 = nI P ∧ gF σ 91 17 = nI P ∧ P ≤ 46 ∧ ∀ i, i < P → ∃ c, gA σ 3 i = nI c ∧ 32 ≤ c ∧ c ≤ 126) ∧ gA σ 3 = gA σ 101
def I6 (σ : Sg) : Prop := ∃ p, gF σ 0 10 = nI p ∧ gF σ 91 12 = nI p ∧ p ≤ 20
def KD (σ : Sg) (t N T : Nat) : Prop := (gF σ 29 0 = nI T ∧ gF σ 29 1 = nI N) ∧ (∀ i, i < 7 → gA σ 35 i = gA σ 11 i ∧ gA σ 41 i = gA σ 17 i ∧ gA σ 43 i = gA σ 19 i ∧ gA σ 45 i = gA σ 21 i) ∧ (∀ i, i < 3 → gA σ 31 i = gA σ 109 i ∧ gA σ 33 i = gA σ 110 i) ∧ (∀ i, i < 7 → gA σ 37 i = gA σ 111 i ∧ gA σ 39 i = gA σ 112 i) ∧ (rng (gA σ 31) 3 20 ∧ rng (gA σ 33) 3 9 ∧ rng (gA σ 37) 7 9 ∧ rng (gA σ 39) 7 9) ∧ ((∃ m, gF σ 29 11 = nI m ∧ gF σ 91 34 = nI m ∧ m < 2 ^ N) ∧ (∃ y, gF σ 29 12 = nI y ∧ gF σ 91 36 = nI y ∧ y ≤ t) ∧ ∃ o, gF σ 29 13 = nI o ∧ gF σ 91 35 = nI o ∧ o ≤ t) ∧ (∃ S, gF σ 46 3 = nI S ∧ gF σ 91 37 = nI S ∧ S ≤ 8) ∧ ∀ i, i < 8 → gA σ 48 i = gA σ 113 i ∧ gA σ 50 i = gA σ 114 i ∧ gA σ 52 i = gA σ 115 i
def I7 (σ : Sg) (t N T R : Nat) : Prop := ∃ q, gF σ 91 33 = nI q ∧ q ≤ R ∧ ((gF σ 0 8 = 0 ∧ (gF σ 91 32 = 0 ∨ (gF σ 91 32 = 1 ∧ q < R))) ∨ (gF σ 0 8 = 1 ∧ gF σ 91 32 = 1 ∧ q = R ∧ 0 < R ∧ KD σ t N T))
def Inv (t : Nat) (σ : Sg) : Prop := ∃ N T R, I1 σ t N T R ∧ I2 σ N ∧ I3 σ t N ∧ I4 σ ∧ I5 σ ∧ I6 σ ∧ I7 σ t N T R
/-- what of the state counts -/
def relF (k j : Nat) : Bool := k == 0 || k == 1 || k == 5 || k == 29 || k == 22 || k == 46 || (k == 91 && (j == 0 || j == 1 || j == 2 || j == 9 || j == 10 || j == 11 || j == 12 || j == 13 || j == 17 || (decide (32 ≤ j) && decide (j ≤ 37))))
def relA (k : Nat) : Bool := decide (k ≤ 52) || (decide (92 ≤ k) && decide (k ≤ 101)) || decide (109 ≤ k)
def vw (σ : Sg) : Sg := (fun k j => if relF k j = true then σ.1 k j else 0, fun k i => if relA k = true then σ.2.1 k i else 0, fun _ _ => 0)
theorem vw_sF {σ : Sg} {k j : Nat} {v : Int32} (h : relF k j = false) : vw (sF σ k j v) = vw σ := by
  have e : (fun a b => if relF a b = true then (sF σ k j v).1 a b else (0 : Int32)) = fun a b => if relF a b = true then σ.1 a b else 0 := by
    funext a b
    by_cases hr : relF a b = true
    · rw [if_pos hr, if_pos hr]
      show (if a = k ∧ b = j then v else σ.1 a b) = σ.1 a b
      rw [if_neg]
      rintro ⟨rfl, rfl⟩
      rw [h] at hr
      cases hr
    · rw [if_neg hr, if_neg hr]
  show ((_, _, _) : Sg) = (_, _, _)
  rw [e]
  rfl
theorem vw_sA {σ : Sg} {k i : Nat} {v : Int32} (h : relA k = false) : vw (sA σ k i v) = vw σ := by
  have e : (fun a b => if relA a = true then (sA σ k i v).2.1 a b else (0 : Int32)) = fun a b => if relA a = true then σ.2.1 a b else 0 := by
    funext a b
    by_cases hr : relA a = true
    · rw [if_pos hr, if_pos hr]
      show (if a = k ∧ b = i then v else σ.2.1 a b) = σ.2.1 a b
      rw [if_neg]
      rintro ⟨rfl, -⟩
      rw [h] at hr
      cases hr
    · rw [if_neg hr, if_neg hr]
  show ((_, _, _) : Sg) = (_, _, _)
  rw [e]
  rfl
theorem vw_sL {σ : Sg} {k j : Nat} {v : Int64} : vw (sL σ k j v) = vw σ := rfl
theorem Inv_vw (t : Nat) (σ : Sg) : Inv t (vw σ) = Inv t σ := rfl
theorem Inv.of_vw {t : Nat} {σ σ' : Sg} (h : Inv t σ) (e : vw σ' = vw σ) : Inv t σ' := by
  rw [← Inv_vw, e, Inv_vw]
  exact h
theorem KD.mono {σ : Sg} {t t' N T : Nat} (h : KD σ t N T) (ht : t ≤ t') : KD σ t' N T := by
  obtain ⟨h1, h2, h3, h4, h5, ⟨h6, ⟨y, h7, h8, h9⟩, ⟨o, h10, h11, h12⟩⟩, h13, h14⟩ := h
  exact ⟨h1, h2, h3, h4, h5, ⟨h6, ⟨y, h7, h8, by omega⟩, ⟨o, h10, h11, by omega⟩⟩, h13, h14⟩
theorem I7.mono {σ : Sg} {t t' N T R : Nat} (h : I7 σ t N T R) (ht : t ≤ t') : I7 σ t' N T R := by
  obtain ⟨q, h1, h2, h3⟩ := h
  refine ⟨q, h1, h2, ?_⟩
  rcases h3 with h | ⟨a, b, c, d, e⟩
  · exact Or.inl h
  · exact Or.inr ⟨a, b, c, d, e.mono ht⟩
theorem I1.mono {σ : Sg} {t t' N T R : Nat} (h : I1 σ t N T R) (ht : t ≤ t') : I1 σ t' N T R := by
  obtain ⟨a, b, c, d, e, f, g, i, j, k, l⟩ := h
  exact ⟨a, b, c, d, e, f, g, i, by omega, k, l⟩
theorem I3.mono {σ : Sg} {t t' N : Nat} (h : I3 σ t N) (ht : t ≤ t') : I3 σ t' N := by
  obtain ⟨a, ⟨y, b, c, d⟩, ⟨o, e, f, g⟩⟩ := h
  exact ⟨a, ⟨y, b, c, by omega⟩, ⟨o, e, f, by omega⟩⟩
theorem Inv.mono {t t' : Nat} {σ : Sg} (h : Inv t σ) (ht : t ≤ t') : Inv t' σ := by
  obtain ⟨N, T, R, h1, h2, h3, h4, h5, h6, h7⟩ := h
  exact ⟨N, T, R, h1.mono ht, h2, h3.mono ht, h4, h5, h6, h7.mono ht⟩
theorem Inv_0 : Inv 0 ((fun _ _ => 0), (fun _ _ => 0), (fun _ _ => 0)) := by
  have r0 : ∀ n hi, rng (fun _ => (0 : Int32)) n hi := fun n hi i _ => ⟨0, rfl, Nat.zero_le _⟩
  exact ⟨0, 0, 0, ⟨rfl, rfl, rfl, rfl, by omega, by omega, rfl, rfl, by omega, fun _ => ⟨rfl, rfl⟩, fun h => absurd h (by omega)⟩, ⟨⟨rfl, rfl, rfl, rfl, rfl, rfl⟩, ⟨r0 _ _, r0 _ _, r0 _ _, r0 _ _, r0 _ _, fun i h => absurd h (by omega)⟩, fun c h => absurd h (by omega)⟩, ⟨⟨0, rfl, rfl, by decide⟩, ⟨0, rfl, rfl, by omega⟩, ⟨0, rfl, rfl, by omega⟩⟩, ⟨⟨0, rfl, rfl, by omega⟩, rfl, rfl, rfl⟩, ⟨⟨0, rfl, rfl, by omega, fun i h => absurd h (by omega)⟩, rfl⟩, ⟨0, rfl, rfl, by omega⟩, ⟨0, rfl, by omega, Or.inl ⟨rfl, Or.inl rfl⟩⟩⟩
/-- one call on both sides, from a state where all is so -/
def opP (t : Nat) (C : Option (Int32 × Sg)) (M : Sg → Option (Int32 × Sg)) : Prop := ∃ r σ1 σ2, C = some (r, σ1) ∧ M σ1 = some (r, σ2) ∧ Inv (t + 1) σ2
def opV (t : Nat) (C : Option Int32) (M : Option (Int32 × Sg)) : Prop := ∃ r σ2, C = some r ∧ M = some (r, σ2) ∧ Inv (t + 1) σ2
def opQ (C M : Option Int32) : Prop := ∃ r, C = some r ∧ M = some r
theorem hasB {b : Bool} : (¬ b2 b = 0) ↔ b = true := by cases b <;> simp [b2]
/-- whether a number names a case, on both sides -/
theorem isCase_is {σ : Sg} {N : Nat} (hN : gF σ 91 2 = nI N) (hN7 : N ≤ 7) (a : Int32) : Mo_isCase σ a = some (b2 (!decide (a < 0) && !decide (nI N - 1 < a))) := by
  rw [Mo_isCase, within_is, bindV_some, if_pos (isb_b2 _), hN]
theorem isTree_is {σ : Sg} {T : Nat} (hT : gF σ 91 1 = nI T) (hT3 : T ≤ 3) (a : Int32) : Mo_isTree σ a = some (b2 (!decide (a < 0) && !decide (nI T - 1 < a))) := by
  rw [Mo_isTree, within_is, bindV_some, if_pos (isb_b2 _), hT]
theorem below1 {N : Nat} (hN : N ≤ 7) {c : Nat} (hc : c < N) : ¬ nI N - 1 < nI c := by
  rw [show (1 : Int32) = nI 1 from rfl, pk_sub (by omega), nI_ltI (by omega) (by omega)]
  omega
theorem below2 {N : Nat} (hN : N ≤ 7) {a : Int32} (h0 : ¬ a < 0) (h : nI N ≤ a) : nI N - 1 < a := by
  obtain ⟨c, hc, rfl⟩ := nI_of h0
  rw [nI_leI (by omega) hc] at h
  by_cases hz : N = 0
  · subst hz
    rw [Int32.lt_iff_toInt_lt]
    rw [nI_toInt hc]
    have : (nI 0 - 1 : Int32).toInt = -1 := by decide
    omega
  · rw [show (1 : Int32) = nI 1 from rfl, pk_sub (by omega), nI_ltI (by omega) hc]
    omega
theorem isCase_in {σ : Sg} {N : Nat} (hN : gF σ 91 2 = nI N) (hN7 : N ≤ 7) {c : Nat} (hc : c < N) : Mo_isCase σ (nI c) = some 1 := by
  rw [isCase_is hN hN7]
  simp [nI_pos (show c < 2147483648 by omega), below1 hN7 hc, b2]
theorem isCase_out {σ : Sg} {N : Nat} (hN : gF σ 91 2 = nI N) (hN7 : N ≤ 7) {a : Int32} (h : a < 0 ∨ nI N ≤ a) : Mo_isCase σ a = some 0 := by
  rw [isCase_is hN hN7]
  by_cases h0 : a < 0
  · simp [h0, b2]
  · rcases h with h | h
    · exact absurd h h0
    · simp [below2 hN7 h0 h, b2]
theorem isTree_in {σ : Sg} {T : Nat} (hT : gF σ 91 1 = nI T) (hT3 : T ≤ 3) {c : Nat} (hc : c < T) : Mo_isTree σ (nI c) = some 1 := by
  rw [isTree_is hT hT3]
  simp [nI_pos (show c < 2147483648 by omega), below1 (show T ≤ 7 by omega) hc, b2]
theorem isTree_out {σ : Sg} {T : Nat} (hT : gF σ 91 1 = nI T) (hT3 : T ≤ 3) {a : Int32} (h : a < 0 ∨ nI T ≤ a) : Mo_isTree σ a = some 0 := by
  rw [isTree_is hT hT3]
  by_cases h0 : a < 0
  · simp [h0, b2]
  · rcases h with h | h
    · exact absurd h h0
    · simp [below2 (show T ≤ 7 by omega) h0 h, b2]
