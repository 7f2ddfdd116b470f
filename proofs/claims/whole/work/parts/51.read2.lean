/-! BOTH READERS, TOGETHER -/
def K0 : Int32 → Sg → Option (Int32 × Sg) := fun l1_7 s8 => bindV (Pg_size s8) fun r9 => some (r9, s8)
def pgOK (pg : Nat → Int32) (P : Nat) : Prop := P ≤ 46 ∧ ∀ i, i < P → ∃ c, pg i = nI c ∧ 32 ≤ c ∧ c ≤ 126
def atP (pg : Nat → Int32) (P l : Nat) : Int32 := if l < P then pg l else 0
theorem rd_end {σ s : Sg} {P fu n : Nat} (v : vw s = vw σ) (hP : gF σ 1 1 = nI P) (hn : 0 < n) : Rd_firstFault_L17 fu K0 n (nI P) s = some (nI P, s) := by
  obtain ⟨n, rfl⟩ : ∃ k, n = k + 1 := ⟨n - 1, by omega⟩
  rw [Rd_firstFault_L17, Pg_size, bindV_some, vw_gF v (by rfl), hP, if_pos (Int32.le_refl _), K0, Pg_size, bindV_some, vw_gF v (by rfl), hP]
theorem rd_in {σ s : Sg} {P fu n l : Nat} (v : vw s = vw σ) (hP : gF σ 1 1 = nI P) (hP46 : P ≤ 46) (hl : l < P) (hn : 0 < n) {b : Bool} {s' : Sg} (h : Rd_takes s (gA σ 3 l) = some (b2 b, s')) : Rd_firstFault_L17 fu K0 n (nI l) s = if b = true then Rd_firstFault_L17 fu K0 (n - 1) (nI (l + 1)) s' else some (nI l, s') := by
  obtain ⟨n, rfl⟩ : ∃ k, n = k + 1 := ⟨n - 1, by omega⟩
  rw [Rd_firstFault_L17, Pg_size, bindV_some, vw_gF v (by rfl), hP, if_neg (nI_ge hl (by omega)), Pg_code, Rw_at_in (n := 46) rfl (by omega) (by decide), bindV_some, bindV_some, vw_gA v (by rfl), h, bindP_some, nI_1, Nat.add_sub_cancel]
  cases b <;> rfl
/-- one place: the class stops there, or goes on -/
theorem rd_pos {σ s : Sg} {P fu n l p t k p' t' k' : Nat} {f : Int32 → Bool} (hcs : CS σ s p t k) (hP : gF σ 1 1 = nI P) (hpg : pgOK (gA σ 3) P) (hl : l ≤ P) (hn : P - l < n) (hf0 : f 0 = false) (ht : ∀ m, m < 127 → TK σ s (nI m) (f (nI m)) p' t' k') :
    (f (atP (gA σ 3) P l) = false → ∃ s', Rd_firstFault_L17 fu K0 n (nI l) s = some (nI l, s') ∧ vw s' = vw σ ∧ (l = P → CS σ s' p t k)) ∧ (f (atP (gA σ 3) P l) = true → l < P ∧ ∃ s', Rd_firstFault_L17 fu K0 n (nI l) s = Rd_firstFault_L17 fu K0 (n - 1) (nI (l + 1)) s' ∧ CS σ s' p' t' k') := by
  obtain ⟨h46, hch⟩ := hpg
  by_cases q : l < P
  · rw [atP, if_pos q]
    obtain ⟨c, c1, c2, c3⟩ := hch l q
    obtain ⟨s', e, v', hb⟩ := ht c (by omega)
    rw [← c1] at e hb
    have e' := rd_in (fu := fu) (n := n) hcs.1 hP h46 q (by omega) e
    constructor
    · intro hf
      rw [hf, if_neg (by decide)] at e'
      exact ⟨s', e', v', fun z => absurd z (by omega)⟩
    · intro hf
      rw [hf, if_pos rfl] at e'
      exact ⟨q, s', e', hb hf⟩
  · have hlP : l = P := by omega
    subst hlP
    rw [atP, if_neg q, hf0]
    exact ⟨fun _ => ⟨s, rd_end hcs.1 hP (by omega), hcs.1, fun _ => hcs⟩, fun z => by cases z⟩
theorem Mo_at_is {σ : Sg} {P l : Nat} (hP : gF σ 91 17 = nI P) (hP46 : P ≤ 46) (hl : l < 1000) : Mo_at σ (nI l) = some (atP (gA σ 101) P l) := by
  rw [Mo_at, hP, atP]
  by_cases q : l < P
  · rw [if_neg (nI_ge q (by omega)), if_pos (inb_nI (by omega) (by decide)), if_pos q, ix_nI (by omega)]
  · rw [if_pos ((nI_leI (by omega) (by omega)).mpr (by omega)), if_neg q]
theorem Mo_fig_is {σ : Sg} {P l : Nat} (hP : gF σ 91 17 = nI P) (hP46 : P ≤ 46) (hl : l < 1000) (lo hi : Int32) : Mo_isFigure σ (nI l) lo hi = some (b2 (fig (atP (gA σ 101) P l) lo hi)) := by
  rw [Mo_isFigure, Mo_at_is hP hP46 hl, bindV_some, within_is, bindV_some, if_pos (isb_b2 _), fig]
def kdB (c : Int32) : Bool := !(kIndex c == -1)
theorem nI_p2 (l : Nat) : nI l + 2 = nI (l + 2) := nI_add l 2
theorem nI_p3 (l : Nat) : nI l + 3 = nI (l + 3) := nI_add l 3
theorem nI_p4 (l : Nat) : nI l + 4 = nI (l + 4) := nI_add l 4
theorem Mo_readCase_is {σ : Sg} {P l k : Nat} (hP : gF σ 91 17 = nI P) (hP46 : P ≤ 46) (hl : l < 900) (hk : gF σ 91 21 = nI k) : Mo_readCase σ (nI l) = some (nI (l + if kdB (atP (gA σ 101) P l) = true then (if fig (atP (gA σ 101) P (l + 1)) 1 9 = true then (if fig (atP (gA σ 101) P (l + 2)) 1 9 = true then (if (atP (gA σ 101) P (l + 3) == 45 || fig (atP (gA σ 101) P (l + 3)) 0 (nI k - 1)) = true then 4 else 3) else 2) else 1) else 0)) := by
  rw [Mo_readCase, Mo_at_is hP hP46 (by omega), bindV_some, kind_two, bindV_some, kdB]
  by_cases h0 : kIndex (atP (gA σ 101) P l) = -1
  · rw [if_neg (fun z => z h0), h0]; rfl
  · have e0 : (kIndex (atP (gA σ 101) P l) == -1) = false := by simpa using h0
    rw [if_pos h0, e0, nI_1, Mo_fig_is hP hP46 (by omega), bindV_some]
    cases h1 : fig (atP (gA σ 101) P (l + 1)) 1 9 with
    | false => rw [if_neg (fun z => z rfl)]; rfl
    | true =>
      rw [if_pos (by decide), nI_p2, Mo_fig_is hP hP46 (by omega), bindV_some]
      cases h2 : fig (atP (gA σ 101) P (l + 2)) 1 9 with
      | false => rw [if_neg (fun z => z rfl)]; rfl
      | true =>
        rw [if_pos (by decide), nI_p3, Mo_at_is hP hP46 (by omega), bindV_some, nI_p4]
        by_cases h3 : atP (gA σ 101) P (l + 3) = 45
        · rw [if_pos h3, h3]; rfl
        · have e3 : (atP (gA σ 101) P (l + 3) == 45) = false := by simpa using h3
          rw [if_neg h3, Mo_fig_is hP hP46 (by omega), bindV_some, hk, e3, Bool.false_or]
          cases h4 : fig (atP (gA σ 101) P (l + 3)) 0 (nI k - 1) with
          | false => rw [if_pos (by rfl)]; rfl
          | true => rw [if_neg (by decide)]; rfl
theorem atP_lt {pg : Nat → Int32} {P l : Nat} {f : Int32 → Bool} (h0 : f 0 = false) (h : f (atP pg P l) = true) : l < P ∧ f (pg l) = true := by
  rw [atP] at h
  by_cases q : l < P
  · rw [if_pos q] at h; exact ⟨q, h⟩
  · rw [if_neg q, h0] at h; cases h
/-- a case's five letters -/
def caseOK (pg : Nat → Int32) (p j : Nat) : Prop := kdB (pg p) = true ∧ fig (pg (p + 1)) 1 9 = true ∧ fig (pg (p + 2)) 1 9 = true ∧ (pg (p + 3) == 45 || fig (pg (p + 3)) 0 (nI j - 1)) = true
def treeOK (pg : Nat → Int32) (p : Nat) : Prop := fig (pg p) 0 9 = true ∧ fig (pg (p + 1)) 0 9 = true
def MS (σm s : Sg) (t k : Nat) (w : Int32) : Prop := vw s = vw σm ∧ gL s = gL σm ∧ gF s 91 20 = nI t ∧ gF s 91 21 = nI k ∧ gF s 91 19 = w
/-- what reading ends with, on both sides -/
def Out (σ σm : Sg) (P : Nat) (C M : Option (Int32 × Sg)) : Prop := ∃ r s1 s2, r ≤ P ∧ C = some (nI r, s1) ∧ M = some (nI r, s2) ∧ vw s1 = vw σ ∧ vw s2 = vw σm ∧ gL s2 = gL σm ∧ ((gF s2 91 19 = 0 ∧ (r = P → ¬ gF s1 4 1 = 7 ∨ gF s1 4 3 < 2)) ∨ ∃ t k, r = P ∧ CS σ s1 7 t k ∧ 2 ≤ k ∧ k ≤ 7 ∧ 1 ≤ t ∧ t ≤ 3 ∧ MS σm s2 t k 1 ∧ P + 1 = 3 * t + 5 * k ∧ (∀ i, i < t → treeOK (gA σ 3) (3 * i)) ∧ ∀ j, j < k → caseOK (gA σ 3) (3 * t + 5 * j) j)
theorem ifF {α : Type} (x y : α) : (if false = true then x else y) = y := rfl
theorem ifT {α : Type} (x y : α) : (if true = true then x else y) = x := rfl
theorem kdB_0 : kdB 0 = false := by decide
theorem nI_inj {a b : Nat} (ha : a < 2147483648) (hb : b < 2147483648) : nI a = nI b ↔ a = b := nI_eq ha hb
theorem cases_joint {σ σm : Sg} {P fu t : Nat} (hP : gF σ 1 1 = nI P) (hP2 : gF σm 91 17 = nI P) (hpg : pgOK (gA σ 3) P) (hsame : gA σ 3 = gA σm 101) (ht1 : 1 ≤ t) (ht3 : t ≤ 3) (hT : ∀ i, i < t → treeOK (gA σ 3) (3 * i)) :
    ∀ m k l n n' s1 s2, k + (m + 1) = 7 → l = 3 * t + 5 * k → l ≤ P → P - l < n → m + 1 < n' → CS σ s1 3 t k → MS σm s2 t k 0 → (∀ j, j < k → caseOK (gA σ 3) (3 * t + 5 * j) j) → Out σ σm P (Rd_firstFault_L17 fu K0 n (nI l) s1) (Mo_readCases_L2 fu (fun l2_15 s16 => some (l2_15, s16)) n' (nI l) s2) := by
  have h46 := hpg.1
  have hPm : ∀ s, vw s = vw σm → gF s 91 17 = nI P := fun s v => by rw [vw_gF v (by rfl)]; exact hP2
  have hAm : ∀ s, vw s = vw σm → gA s 101 = gA σ 3 := fun s v => by rw [vw_gA v (by rfl), hsame]
  -- one case, and then what comes behind it
  have main : ∀ k l n n' s1 s2, k < 7 → l = 3 * t + 5 * k → l ≤ P → P - l < n → 1 < n' → CS σ s1 3 t k → MS σm s2 t k 0 → (∀ j, j < k → caseOK (gA σ 3) (3 * t + 5 * j) j) → (∀ s1' s2' (w : Int32), k + 1 < 7 → l + 5 ≤ P → CS σ s1' 3 t (k + 1) → MS σm s2' t (k + 1) 0 → (∀ j, j < k + 1 → caseOK (gA σ 3) (3 * t + 5 * j) j) → Out σ σm P (Rd_firstFault_L17 fu K0 (n - 5) (nI (l + 5)) s1') (Mo_readCases_L2 fu (fun l2_15 s16 => some (l2_15, s16)) (n' - 1) (nI (l + 5)) s2')) → Out σ σm P (Rd_firstFault_L17 fu K0 n (nI l) s1) (Mo_readCases_L2 fu (fun l2_15 s16 => some (l2_15, s16)) n' (nI l) s2) := by
    intro k l n n' s1 s2 hk7 hl hlP hn hn' c1 ms hK next
    obtain ⟨n', rfl⟩ : ∃ q, n' = q + 1 := ⟨n' - 1, by omega⟩
    obtain ⟨mv, ml, m20, m21, m19⟩ := ms
    have hnot7 : ¬ (7 : Int32) ≤ nI k := fun z => by have := (nI_leI (a := 7) (b := k) (by omega) (by omega)).mp z; omega
    have hrc := Mo_readCase_is (σ := s2) (l := l) (k := k) (hPm s2 mv) h46 (by omega) m21
    rw [hAm s2 mv] at hrc
    have hM : Mo_readCases_L2 fu (fun l2_15 s16 => some (l2_15, s16)) (n' + 1) (nI l) s2 = Mo_readCases_L2 fu (fun l2_15 s16 => some (l2_15, s16)) (n' + 1) (nI l) s2 := rfl
    conv at hM => rhs; rw [Mo_readCases_L2]
    rw [m21, if_neg hnot7, hrc, bindV_some, nI_p4] at hM
    rw [hM]
    -- a stop at one of the four places
    have stop : ∀ e p kk s1', e < 4 → p < 7 → l + e ≤ P → Rd_firstFault_L17 fu K0 n (nI l) s1 = some (nI (l + e), s1') → vw s1' = vw σ → (l + e = P → CS σ s1' p t kk) → ∀ X, Out σ σm P (Rd_firstFault_L17 fu K0 n (nI l) s1) (if nI (l + e) = nI (l + 4) then X else some (nI (l + e), s2)) := by
      intro e p kk s1' he hp hle h1 h2 h3 X
      rw [h1, if_neg (fun z => by have := (nI_inj (by omega) (by omega)).mp z; omega)]
      refine ⟨l + e, s1', s2, hle, rfl, rfl, h2, mv, ml, Or.inl ⟨m19, fun hr => Or.inl ?_⟩⟩
      rw [(h3 hr).2.1]
      intro z
      have := (nI_inj (b := 7) (by omega) (by omega)).mp z
      omega
    obtain ⟨p0a, p0b⟩ := rd_pos (fu := fu) (n := n) (l := l) (f := kdB) c1 hP hpg hlP hn kdB_0 (fun m hm => T3 c1 hm)
    cases b0 : kdB (atP (gA σ 3) P l) with
    | false =>
      obtain ⟨s1', q1, q2, q3⟩ := p0a b0
      rw [ifF]
      exact stop 0 3 k s1' (by decide) (by decide) hlP q1 q2 q3 _
    | true =>
      obtain ⟨l0, s1a, q0, c1a⟩ := p0b b0
      rw [ifT]
      obtain ⟨p1a, p1b⟩ := rd_pos (fu := fu) (n := n - 1) (l := l + 1) (f := fun c => fig c 1 9) c1a hP hpg (by omega) (by omega) (fig_0 0 (by decide)).2.1 (fun m hm => by
        show TK σ s1a (nI m) (fig (nI m) 1 9) 5 t k
        rw [← dig_fig1 m hm]; exact T45 (Or.inl rfl) c1a (nI m))
      cases b1 : fig (atP (gA σ 3) P (l + 1)) 1 9 with
      | false =>
        obtain ⟨s1', q1, q2, q3⟩ := p1a b1
        rw [ifF]
        exact stop 1 4 k s1' (by decide) (by decide) (by omega) (q0.trans q1) q2 q3 _
      | true =>
        obtain ⟨l1, s1b, q1, c1b⟩ := p1b b1
        rw [ifT]
        obtain ⟨p2a, p2b⟩ := rd_pos (fu := fu) (n := n - 1 - 1) (l := l + 1 + 1) (f := fun c => fig c 1 9) c1b hP hpg (by omega) (by omega) (fig_0 0 (by decide)).2.1 (fun m hm => by
          show TK σ s1b (nI m) (fig (nI m) 1 9) 6 t k
          rw [← dig_fig1 m hm]; exact T45 (Or.inr rfl) c1b (nI m))
        cases b2' : fig (atP (gA σ 3) P (l + 2)) 1 9 with
        | false =>
          obtain ⟨s1', r1, r2, r3⟩ := p2a b2'
          rw [ifF]
          exact stop 2 5 k s1' (by decide) (by decide) (by omega) (q0.trans (q1.trans r1)) r2 r3 _
        | true =>
          obtain ⟨l2, s1c, q2, c1c⟩ := p2b b2'
          rw [ifT]
          obtain ⟨p3a, p3b⟩ := rd_pos (fu := fu) (n := n - 1 - 1 - 1) (l := l + 1 + 1 + 1) (f := fun c => (c == 45 || fig c 0 (nI k - 1))) c1c hP hpg (by omega) (by omega) (by
            show ((0 : Int32) == 45 || fig 0 0 (nI k - 1)) = false
            rw [(fig_0 k (by omega)).2.2]; rfl) (fun m hm => by
            show TK σ s1c (nI m) (nI m == 45 || fig (nI m) 0 (nI k - 1)) 7 t (k + 1)
            rw [← dig_figk k (by omega) m hm]; exact T6 c1c (nI m))
          cases b3 : (atP (gA σ 3) P (l + 3) == 45 || fig (atP (gA σ 3) P (l + 3)) 0 (nI k - 1)) with
          | false =>
            obtain ⟨s1', r1, r2, r3⟩ := p3a b3
            rw [ifF]
            exact stop 3 6 k s1' (by decide) (by decide) (by omega) (q0.trans (q1.trans (q2.trans r1))) r2 r3 _
          | true =>
            obtain ⟨l3, s1d, q3, c1d⟩ := p3b b3
            rw [ifT, if_pos rfl]
            have hK' : ∀ j, j < k + 1 → caseOK (gA σ 3) (3 * t + 5 * j) j := by
              intro j hj
              by_cases q : j = k
              · subst q
                rw [← hl]
                exact ⟨(atP_lt kdB_0 b0).2, (atP_lt (f := fun c => fig c 1 9) (fig_0 0 (by decide)).2.1 b1).2, (atP_lt (f := fun c => fig c 1 9) (fig_0 0 (by decide)).2.1 b2').2, (atP_lt (f := fun c => (c == 45 || fig c 0 (nI j - 1))) (by
                  show ((0 : Int32) == 45 || fig 0 0 (nI j - 1)) = false
                  rw [(fig_0 j (by omega)).2.2]; rfl) b3).2⟩
              · exact hK j (by omega)
            have q4 := q0.trans (q1.trans (q2.trans q3))
            rw [q4]
            -- behind a whole case
            have e21 : ∀ w, gF (sF (sF s2 91 21 (nI k + 1)) 91 19 w) 91 21 = nI (k + 1) := fun w => by rw [gF_sF, if_neg (by decide), gF_sF, if_pos (And.intro rfl rfl), nI_1]
            have e21' : gF (sF s2 91 21 (nI k + 1)) 91 21 = nI (k + 1) := by rw [gF_sF, if_pos (And.intro rfl rfl), nI_1]
            have e17 : gF (sF s2 91 21 (nI k + 1)) 91 17 = nI P := by rw [gF_sF, if_neg (by decide)]; exact hPm s2 mv
            have ms' : ∀ w, MS σm (sF (sF s2 91 21 (nI k + 1)) 91 19 w) t (k + 1) w := fun w => ⟨by rw [vw_sF (by rfl), vw_sF (by rfl)]; exact mv, ml, by rw [gF_sF, if_neg (by decide), gF_sF, if_neg (by decide)]; exact m20, e21 w, by rw [gF_sF, if_pos (And.intro rfl rfl)]⟩
            have eat : ∀ w, Mo_at (sF (sF s2 91 21 (nI k + 1)) 91 19 w) (nI (l + 4)) = some (atP (gA σ 3) P (l + 4)) := fun w => by rw [Mo_at_is (hPm _ (ms' w).1) h46 (by omega), hAm _ (ms' w).1]
            have tail : ∀ (w : Int32) (Y : Option (Int32 × Sg)), (if gF (sF (sF s2 91 21 (nI k + 1)) 91 19 w) 91 21 = (7 : Int32) then some (nI (l + 4), sF (sF s2 91 21 (nI k + 1)) 91 19 w) else bindV (Mo_at (sF (sF s2 91 21 (nI k + 1)) 91 19 w) (nI (l + 4))) fun r6 => if r6 = (44 : Int32) then Y else some (nI (l + 4), sF (sF s2 91 21 (nI k + 1)) 91 19 w)) = if (k + 1 < 7 ∧ atP (gA σ 3) P (l + 4) = 44) then Y else some (nI (l + 4), sF (sF s2 91 21 (nI k + 1)) 91 19 w) := by
              intro w Y
              rw [e21 w, eat w, bindV_some]
              by_cases q7 : k + 1 = 7
              · rw [if_pos (show nI (k + 1) = 7 by rw [q7]; rfl), if_neg (by omega)]
              · rw [if_neg (show ¬ nI (k + 1) = 7 from fun z => q7 ((nI_inj (b := 7) (by omega) (by omega)).mp z))]
                by_cases q44 : atP (gA σ 3) P (l + 4) = 44
                · rw [if_pos q44, if_pos ⟨by omega, q44⟩]
                · rw [if_neg q44, if_neg (fun z => q44 z.2)]
            rw [e17, tail, tail, e21', show l + 1 + 1 + 1 + 1 = l + 4 from rfl]
            by_cases hend : l + 4 = P
            · have hcl : Rd_firstFault_L17 fu K0 (n - 1 - 1 - 1 - 1) (nI (l + 4)) s1d = some (nI (l + 4), s1d) := by
                rw [hend]
                exact rd_end c1d.1 hP (by omega)
              have hno : ¬ (k + 1 < 7 ∧ atP (gA σ 3) P (l + 4) = 44) := by
                rintro ⟨-, z⟩
                rw [atP, if_neg (by omega)] at z
                exact absurd z (by decide)
              rw [if_neg (fun z => z (by rw [hend])), if_neg hno, if_neg hno, hcl]
              by_cases hk0 : k = 0
              · rw [if_pos ((nI_le1 (by omega)).mpr (by omega))]
                refine ⟨l + 4, s1d, _, by omega, rfl, rfl, c1d.1, (ms' 0).1, ml, Or.inl ⟨(ms' 0).2.2.2.2, fun _ => Or.inr ?_⟩⟩
                rw [c1d.2.2.2]
                exact (nI_ltI (b := 2) (by omega) (by omega)).mpr (by omega)
              · rw [if_neg (fun z => by have := (nI_le1 (by omega)).mp z; omega)]
                exact ⟨l + 4, s1d, _, by omega, rfl, rfl, c1d.1, (ms' 1).1, ml, Or.inr ⟨t, k + 1, hend, c1d, by omega, by omega, ht1, ht3, ms' 1, by omega, hT, hK'⟩⟩
            · obtain ⟨p4a, p4b⟩ := rd_pos (fu := fu) (n := n - 1 - 1 - 1 - 1) (l := l + 4) (f := fun c => (c == 44 && decide (k + 1 < 7))) c1d hP hpg (by omega) (by omega) rfl (fun m hm => T7 c1d (by omega) (nI m))
              rw [if_pos (fun z => hend ((nI_inj (by omega) (by omega)).mp z))]
              by_cases q : k + 1 < 7 ∧ atP (gA σ 3) P (l + 4) = 44
              · obtain ⟨l4, s1e, r1, c1e⟩ := p4b (by
                  show (atP (gA σ 3) P (l + 4) == 44 && decide (k + 1 < 7)) = true
                  rw [q.2]; simp; omega)
                rw [if_pos q, r1, nI_1]
                exact next s1e _ 0 q.1 (by omega) c1e (ms' 0) hK'
              · obtain ⟨s1', r1, r2, r3⟩ := p4a (by
                  show (atP (gA σ 3) P (l + 4) == 44 && decide (k + 1 < 7)) = false
                  rw [Bool.and_eq_false_iff]
                  by_cases q44 : atP (gA σ 3) P (l + 4) = 44
                  · right
                    rw [decide_eq_false_iff_not]
                    exact fun z => q ⟨z, q44⟩
                  · left
                    simpa using q44)
                rw [if_neg q, r1]
                exact ⟨l + 4, s1', _, by omega, rfl, rfl, r2, (ms' 0).1, ml, Or.inl ⟨(ms' 0).2.2.2.2, fun z => absurd z hend⟩⟩
  intro m
  induction m with
  | zero =>
    intro k l n n' s1 s2 hk hl hlP hn hn' c1 ms hK
    exact main k l n n' s1 s2 (by omega) hl hlP hn (by omega) c1 ms hK (fun s1' s2' w h => absurd h (by omega))
  | succ m ih =>
    intro k l n n' s1 s2 hk hl hlP hn hn' c1 ms hK
    exact main k l n n' s1 s2 (by omega) hl hlP hn (by omega) c1 ms hK (fun s1' s2' w h1 h2 h3 h4 h5 => ih (k + 1) (l + 5) (n - 5) (n' - 1) s1' s2' (by omega) (by omega) h2 (by omega) (by omega) h3 h4 h5)
