/-! BOTH READERS, TOGETHER -/
def K0 : Int32 → Sg → Option (Int32 × Sg) := fun l1_7 s8 => bindV (Pg_size s8) fun r9 => some (r9, s8)
def pgOK (pg : Nat → Int32) (P : Nat) : Prop := P ≤ 46 ∧ ∀ i, i < P → ∃ c, pg i = nI c ∧ 32 ≤ c ∧ c ≤ 126
def atP (pg : Nat → Int32) (P l : Nat) : Int32 := if l < P then pg l else 0
theorem rd_end {σ s : Sg} {P fu n : Nat} (v : vw s = vw σ) (hP : gF σ 1 1 = nI P) (hn : 0 < n) : Rd_firstFault_L17 fu K0 n (nI P) s = some (nI P, s) := by
  obtain ⟨n, rfl⟩ : ∃ k, n = k + 1 := ⟨n - 1, by omega⟩
  rw [Rd_firstFault_L17, Pg_size, bindV_some, vw_gF v (by rfl), hP, if_pos (Int32.le_refl _), K0, Pg_size, bindV_some, vw_gF v (by rfl), hP]
theorem rd_in {σ s : Sg} {P fu n l : Nat} (v : vw s = vw σ) (hP : gF σ 1 1 = nI P) (hP46 : P ≤ 46) (hl : l < P) (hn : 0 < n) {b : Bool} {s' : Sg} (h : Rd_takes s (gA σ 3 l) = some (b2 b, s')) : Rd_firstFault_L17 fu K0 n (nI l) s = if b = true then Rd_firstFault_L17 fu K0 (n - 1) (nI (l + 1)) s' else some (nI l, s') := by
  obtain ⟨n, rfl⟩ : ∃ k, n = k + 1 := ⟨n - 1, by omega⟩
  rw [Rd_firstFault_L17, Pg_size, bindV_some, vw_gF v (by rfl), hP, if_neg (nI_ge hl (by omega)), Pg_code, Rw_at_in (n := 46) rfl (by omega) (by decide), bindV_some, bindV_some, vw_gA v (by rfl), h, bindP_some, nI_1, Nat.add_sub_cancel]
  cases b <;> rfl
/-- one place: the class stops there, or goes on -/
theorem rd_pos {σ s : Sg} {P fu n l p t k p' t' k' : Nat} {f : Int32 → Bool} (hcs : CS σ s p t k) (hP : gF σ 1 1 = nI P) (hpg : pgOK (gA σ 3) P) (hl : l ≤ P) (hn : P - l < n) (hf0 : f 0 = false) (ht : ∀ m, m < 127 → TK σ s (nI m) (f (nI m)) p' t' k') :
    (f (atP (gA σ 3) P l) = false → ∃ s', Rd_firstFault_L17 fu K0 n (nI l) s = some (nI l, s') ∧ vw s' = vw σ ∧ (l = P → CS σ s' p t k)) ∧ (f (atP (gA σ 3) P l) = true → l < P ∧ ∃ s', Rd_firstFault_L17 fu K0 n (nI l) s = Rd_firstFault_L17 fu K0 (n - 1) (nI (l + 1)) s' ∧ CS σ s' p' t' k') := by
  obtain ⟨h46, hch⟩ := hpg
  by_cases q : l < P
  · rw [atP, if_pos q]
    obtain ⟨c, c1, c2, c3⟩ := hch l q
    obtain ⟨s', e, v', hb⟩ := ht c (by omega)
    rw [← c1] at e hb
    have e' := rd_in (fu := fu) (n := n) hcs.1 hP h46 q (by omega) e
    constructor
    · intro hf
      rw [hf, if_neg (by decide)] at e'
      exact ⟨s', e', v', fun z => absurd z (by omega)⟩
    · intro hf
      rw [hf, if_pos rfl] at e'
      exact ⟨q, s', e', hb hf⟩
  · have hlP : l = P := by omega
    subst hlP
    rw [atP, if_neg q, hf0]
    exact ⟨fun _ => ⟨s, rd_end hcs.1 hP (by omega), hcs.1, fun _ => hcs⟩, fun z => by cases z⟩
theorem Mo_at_is {σ : Sg} {P l : Nat} (hP : gF σ 91 17 = nI P) (hP46 : P ≤ 46) (hl : l < 1000) : Mo_at σ (nI l) = some (atP (gA σ 101) P l) := by
  rw [Mo_at, hP, atP]
  by_cases q : l < P
  · rw [if_neg (nI_ge q (by omega)), if_pos (inb_nI (by omega) (by decide)), if_pos q, ix_nI (by omega)]
  · rw [if_pos ((nI_leI (by omega) (by omega)).mpr (by omega)), if_neg q]
theorem Mo_fig_is {σ : Sg} {P l : Nat} (hP : gF σ 91 17 = nI P) (hP46 : P ≤ 46) (hl : l < 1000) (lo hi : Int32) : Mo_isFigure σ (nI l) lo hi = some (b2 (fig (atP (gA σ 101) P l) lo hi)) := by
  rw [Mo_isFigure, Mo_at_is hP hP46 hl, bindV_some, within_is, bindV_some, if_pos (isb_b2 _), fig]
def kdB (c : Int32) : Bool := !(kIndex c == -1)
theorem Mo_readCase_is {σ : Sg} {P l k : Nat} (hP : gF σ 91 17 = nI P) (hP46 : P ≤ 46) (hl : l < 900) (hk : gF σ 91 21 = nI k) : Mo_readCase σ (nI l) = some (nI (l + if kdB (atP (gA σ 101) P l) = true then (if fig (atP (gA σ 101) P (l + 1)) 1 9 = true then (if fig (atP (gA σ 101) P (l + 2)) 1 9 = true then (if (atP (gA σ 101) P (l + 3) == 45 || fig (atP (gA σ 101) P (l + 3)) 0 (nI k - 1)) = true then 4 else 3) else 2) else 1) else 0)) := by
  rw [Mo_readCase, Mo_at_is hP hP46 (by omega), bindV_some, kind_two, bindV_some, kdB]
  by_cases h0 : kIndex (atP (gA σ 101) P l) = -1
  · rw [if_neg (fun z => z h0), h0]; rfl
  · have e0 : (kIndex (atP (gA σ 101) P l) == -1) = false := by simpa using h0
    rw [if_pos h0, e0, show (1 : Int32) = nI 1 from rfl, nI_add, Mo_fig_is hP hP46 (by omega), bindV_some]
    cases h1 : fig (atP (gA σ 101) P (l + 1)) (nI 1) 9 with
    | false =>
      have h1' : fig (atP (gA σ 101) P (l + 1)) 1 9 = false := h1
      rw [if_neg (fun z => z rfl), h1']; rfl
    | true =>
      have h1' : fig (atP (gA σ 101) P (l + 1)) 1 9 = true := h1
      rw [if_pos (by decide), show (2 : Int32) = nI 2 from rfl, nI_add, Mo_fig_is hP hP46 (by omega), bindV_some, h1']
      cases h2 : fig (atP (gA σ 101) P (l + 2)) (nI 1) 9 with
      | false =>
        have h2' : fig (atP (gA σ 101) P (l + 2)) 1 9 = false := h2
        rw [if_neg (fun z => z rfl), h2']; rfl
      | true =>
        have h2' : fig (atP (gA σ 101) P (l + 2)) 1 9 = true := h2
        rw [if_pos (by decide), show (3 : Int32) = nI 3 from rfl, nI_add, Mo_at_is hP hP46 (by omega), bindV_some, h2', show (4 : Int32) = nI 4 from rfl, nI_add]
        by_cases h3 : atP (gA σ 101) P (l + 3) = 45
        · rw [if_pos h3, h3]; rfl
        · have e3 : (atP (gA σ 101) P (l + 3) == 45) = false := by simpa using h3
          rw [if_neg h3, Mo_fig_is hP hP46 (by omega), bindV_some, hk, e3, Bool.false_or]
          cases h4 : fig (atP (gA σ 101) P (l + 3)) 0 (nI k - nI 1) with
          | false =>
            have h4' : fig (atP (gA σ 101) P (l + 3)) 0 (nI k - 1) = false := h4
            rw [if_pos (by rfl), h4']; rfl
          | true =>
            have h4' : fig (atP (gA σ 101) P (l + 3)) 0 (nI k - 1) = true := h4
            rw [if_neg (by decide), h4']; rfl
theorem atP_lt {pg : Nat → Int32} {P l : Nat} {f : Int32 → Bool} (h0 : f 0 = false) (h : f (atP pg P l) = true) : l < P ∧ f (pg l) = true := by
  rw [atP] at h
  by_cases q : l < P
  · rw [if_pos q] at h; exact ⟨q, h⟩
  · rw [if_neg q, h0] at h; cases h
/-- a case's five letters -/
def caseOK (pg : Nat → Int32) (p j : Nat) : Prop := kdB (pg p) = true ∧ fig (pg (p + 1)) 1 9 = true ∧ fig (pg (p + 2)) 1 9 = true ∧ (pg (p + 3) == 45 || fig (pg (p + 3)) 0 (nI j - 1)) = true
def treeOK (pg : Nat → Int32) (p : Nat) : Prop := fig (pg p) 0 9 = true ∧ fig (pg (p + 1)) 0 9 = true
def MS (σm s : Sg) (t k : Nat) (w : Int32) : Prop := vw s = vw σm ∧ gL s = gL σm ∧ gF s 91 20 = nI t ∧ gF s 91 21 = nI k ∧ gF s 91 19 = w
/-- what reading ends with, on both sides -/
def Out (σ σm : Sg) (P : Nat) (C M : Option (Int32 × Sg)) : Prop := ∃ r s1 s2, r ≤ P ∧ C = some (nI r, s1) ∧ M = some (nI r, s2) ∧ vw s1 = vw σ ∧ vw s2 = vw σm ∧ gL s2 = gL σm ∧ ((gF s2 91 19 = 0 ∧ (r = P → ¬ gF s1 4 1 = 7 ∨ gF s1 4 3 < 2)) ∨ ∃ t k, r = P ∧ CS σ s1 7 t k ∧ 2 ≤ k ∧ k ≤ 7 ∧ 1 ≤ t ∧ t ≤ 3 ∧ MS σm s2 t k 1 ∧ P + 1 = 3 * t + 5 * k ∧ (∀ i, i < t → treeOK (gA σ 3) (3 * i)) ∧ ∀ j, j < k → caseOK (gA σ 3) (3 * t + 5 * j) j)
theorem kdB_0 : kdB 0 = false := by decide
theorem nI_inj {a b : Nat} (ha : a < 2147483648) (hb : b < 2147483648) : nI a = nI b ↔ a = b := nI_eq ha hb
theorem cases_joint {σ σm : Sg} {P fu t : Nat} (hP : gF σ 1 1 = nI P) (hP2 : gF σm 91 17 = nI P) (hpg : pgOK (gA σ 3) P) (hsame : gA σ 3 = gA σm 101) (ht1 : 1 ≤ t) (ht3 : t ≤ 3) (hT : ∀ i, i < t → treeOK (gA σ 3) (3 * i)) :
    ∀ m k l n n' s1 s2, k + (m + 1) = 7 → l = 3 * t + 5 * k → l ≤ P → P - l < n → m + 1 < n' → CS σ s1 3 t k → MS σm s2 t k 0 → (∀ j, j < k → caseOK (gA σ 3) (3 * t + 5 * j) j) → Out σ σm P (Rd_firstFault_L17 fu K0 n (nI l) s1) (Mo_readCases_L2 fu (fun l2_15 s16 => some (l2_15, s16)) n' (nI l) s2) := by
  have h46 := hpg.1
  intro m
  induction m with
  | zero => sorry
  | succ m ih => sorry
