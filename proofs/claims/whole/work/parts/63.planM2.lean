/-! THE PLAN: the model's test of a row -/
def a0S (σ : Sg) : PS := PS.of (gA σ 92) (gF σ 91 9) 0
theorem canBeL43 {σ : Sg} {N T fu : Nat} (hfu : 1000 ≤ fu) (i2 : I2 σ N) (hN7 : N ≤ 7) (hn : gF σ 91 2 = nI N) (ht : gF σ 91 1 = nI T) (hT3 : T ≤ 3) {row : Nat → Nat} (hrow : ∀ j, j < N → row j ≤ T) :
    ∀ m n i (s : Sg) (a : PS), i + m = N → m < n → vw s = vw σ → rowM s N row → pe (opA σ) (coA σ) (gA σ 21) (a0S σ) row i = some a → gF s 91 25 = a.r → gF s 91 26 = a.s → (∀ u, u < T → gA s 104 u = a.l u) → ∃ s', Mo_canBe_L43 fu (fun l1_13 s14 => some ((1 : Int32), s14)) n (nI i) s = some (b2 (pe (opA σ) (coA σ) (gA σ 21) (a0S σ) row N).isSome, s') ∧ vw s' = vw σ ∧ rowM s' N row ∧ gA s' 103 = gA s 103 ∧ ∀ a', pe (opA σ) (coA σ) (gA σ 21) (a0S σ) row N = some a' → gF s' 91 25 = a'.r ∧ gF s' 91 26 = a'.s := by
  intro m
  induction m with
  | zero =>
    intro n i s a hi hm v hr hp h25 h26 hl
    obtain ⟨n, rfl⟩ : ∃ k, n = k + 1 := ⟨n - 1, by omega⟩
    rw [Nat.add_zero] at hi
    subst hi
    refine ⟨s, ?_, v, hr, rfl, fun a' ha' => ?_⟩
    · rw [Mo_canBe_L43, vw_gF v (by rfl), hn, if_pos (Int32.le_refl _), hp]; rfl
    · rw [hp] at ha'
      have e := Option.some.inj ha'
      rw [← e]
      exact ⟨h25, h26⟩
  | succ m ih =>
    intro n i s a hi hm v hr hp h25 h26 hl
    obtain ⟨n, rfl⟩ : ∃ k, n = k + 1 := ⟨n - 1, by omega⟩
    have i2' := i2
    obtain ⟨⟨d1, d2, d3, d4, d5, d6⟩, -, d7⟩ := i2'
    have hin : inb (nI i) 7 = true := inb_nI (by omega) (by decide)
    have hix : ix (nI i) = i := ix_nI (by omega)
    have hri : gA s 102 i = nI (row i) := hr i (by omega)
    have hpe1 : pe (opA σ) (coA σ) (gA σ 21) (a0S σ) row (i + 1) = stJ (opA σ) (coA σ) (gA σ 21) i (row i) a := by rw [pe, hp]; rfl
    have hN : gF s 91 2 = nI N := by rw [vw_gF v (by rfl)]; exact hn
    rw [Mo_canBe_L43, hN, if_neg (nI_ge (by omega) (by omega)), if_pos hin, hix, hri]
    have stop : pe (opA σ) (coA σ) (gA σ 21) (a0S σ) row (i + 1) = none → ∃ s', some ((0 : Int32), s) = some (b2 (pe (opA σ) (coA σ) (gA σ 21) (a0S σ) row N).isSome, s') ∧ vw s' = vw σ ∧ rowM s' N row ∧ gA s' 103 = gA s 103 ∧ ∀ a', pe (opA σ) (coA σ) (gA σ 21) (a0S σ) row N = some a' → gF s' 91 25 = a'.r ∧ gF s' 91 26 = a'.s := by
      intro hno
      have := pe_none hno m
      rw [show i + 1 + m = N by omega] at this
      rw [this]
      exact ⟨s, rfl, v, hr, rfl, fun a' z => by cases z⟩
    by_cases h0 : row i = 0
    · rw [h0, if_pos (show nI 0 - 1 < 0 by decide), nI_1]
      exact ih n (i + 1) s a (by omega) (by omega) v hr (by rw [hpe1, h0]; exact if_pos rfl) h25 h26 hl
    · obtain ⟨d, hd⟩ : ∃ d, row i = d + 1 := ⟨row i - 1, by omega⟩
      have hdT : d < T := by have := hrow i (by omega); omega
      rw [hd, nI_pred, if_neg (nI_pos (by omega)), Mo_isOpen_is (by omega), bindV_some, h25, vw_gA (k := 94) v (by rfl), vw_gA (k := 97) v (by rfl), ← d3, ← d6]
      rw [hd] at hpe1
      cases ho : openS (gA σ 11) (gA σ 17) a.r i with
      | false =>
        rw [if_pos (by rfl)]
        refine stop ?_
        rw [hpe1, stJ, if_neg (by omega), if_neg]
        rintro ⟨z, -⟩
        rw [opA, ho] at z
        cases z
      | true =>
        have hd3 : inb (nI d) 3 = true := inb_nI (by omega) (by decide)
        have hdx : ix (nI d) = d := ix_nI (by omega)
        have hcost : ∀ s', vw s' = vw σ → Mo_cost fu s' (nI i) = some (coA σ i) := fun s' v' => by
          rw [Mo_cost_is (σ := s') (N := N) (by rw [vw_gF v' (by rfl)]; exact hn) hN7 hfu (by omega), vw_gA (k := 94) v' (by rfl), vw_gA (k := 95) v' (by rfl), vw_gA (k := 97) v' (by rfl), costs_two i2 (by omega), coA]
        rw [if_neg (by decide), if_pos hd3, hcost s v, bindV_some, hdx, hl d hdT]
        by_cases hlt : a.l d < coA σ i
        · rw [if_neg (Int32.not_le.mpr hlt)]
          refine stop ?_
          rw [hpe1, stJ, if_neg (by omega), if_neg]
          rintro ⟨-, z⟩
          exact z hlt
        · have v1 : ∀ x, vw (sA s 104 d x) = vw σ := fun x => by rw [vw_sA (by rfl)]; exact v
          have v2 : ∀ x y, vw (sF (sA s 104 d x) 91 26 y) = vw σ := fun x y => by rw [vw_sF (by rfl)]; exact v1 x
          have hall : ∀ x y, Mo_allOn fu (sF (sA s 104 d x) 91 26 y) (nI i) = some (gA σ 21 i) := fun x y => by
            rw [Mo_allOn_is (σ := sF (sA s 104 d x) 91 26 y) (N := N) (by rw [vw_gF (v2 x y) (by rfl)]; exact hn) hN7 hfu (by omega), vw_gA (v2 x y) (by rfl), ← d6, ← (d7 i (by omega)).2]
          rw [if_pos (Int32.not_lt.mp hlt), if_pos hd3, bindV_some, if_pos hd3, hcost _ (v1 _), bindV_some, hall, bindV_some, nI_1]
          have e26 : ∀ x, gF (sA s 104 d x) 91 26 = a.s := fun x => h26
          have e25 : ∀ x y, gF (sF (sA s 104 d x) 91 26 y) 91 25 = a.r := fun x y => by rw [gF_sF, if_neg (by decide)]; exact h25
          rw [e26, e25]
          have hyes : stJ (opA σ) (coA σ) (gA σ 21) i (d + 1) a = some (PS.of (fun u => if u = d then a.l u - coA σ i else a.l u) ((a.r ||| bitI i) &&& (gA σ 21 i ^^^ (-1))) (a.s + coA σ i)) := by
            rw [stJ, if_neg (by omega), Nat.add_sub_cancel, if_pos ⟨ho, hlt⟩]
          obtain ⟨s', e', v', r', g', h'⟩ := ih n (i + 1) (sF (sF (sA s 104 d (a.l d - coA σ i)) 91 26 (a.s + coA σ i)) 91 25 ((a.r &&& (gA σ 21 i ^^^ (-1))) ||| (1 : Int32) <<< (nI i &&& 31))) (PS.of (fun u => if u = d then a.l u - coA σ i else a.l u) ((a.r ||| bitI i) &&& (gA σ 21 i ^^^ (-1))) (a.s + coA σ i)) (by omega) (by omega) (by rw [vw_sF (by rfl)]; exact v2 _ _) (fun j hj => by rw [gA_sF1, gA_sF1, gA_sA_other (by decide)]; exact hr j hj) (by rw [hpe1, hyes]) (by
            rw [gF_sF, if_pos (And.intro rfl rfl)]
            show (a.r &&& (gA σ 21 i ^^^ (-1))) ||| bitI i = (a.r ||| bitI i) &&& (gA σ 21 i ^^^ (-1))
            rw [(d7 i (by omega)).2, right_two' (r := a.r) (b := bitI i) (allS_apart (gA σ 17) hN7 (by omega))]) (by
            rw [gF_sF, if_neg (by decide), gF_sF, if_pos (And.intro rfl rfl)]
            rfl) (fun u hu => by
            rw [gA_sF1, gA_sF1, gA_sA_same]
            show (if u = d then a.l d - coA σ i else gA s 104 u) = if u = d then a.l u - coA σ i else a.l u
            by_cases qu : u = d
            · rw [if_pos qu, if_pos qu, qu]
            · rw [if_neg qu, if_neg qu]; exact hl u hu)
          exact ⟨s', e', v', r', by rw [g', gA_sF1, gA_sF1, gA_sA_other (by decide)], h'⟩
theorem canBe_row {σ s : Sg} {N T fu : Nat} (hfu : 1000 ≤ fu) (i2 : I2 σ N) (hN7 : N ≤ 7) (hn : gF σ 91 2 = nI N) (ht : gF σ 91 1 = nI T) (hT3 : T ≤ 3) {row : Nat → Nat} (hrow : ∀ j, j < N → row j ≤ T) (v : vw s = vw σ) (hr : rowM s N row) : ∃ s', Mo_canBe fu s = some (b2 (pe (opA σ) (coA σ) (gA σ 21) (a0S σ) row N).isSome, s') ∧ vw s' = vw σ ∧ rowM s' N row ∧ gA s' 103 = gA s 103 ∧ ∀ a', pe (opA σ) (coA σ) (gA σ 21) (a0S σ) row N = some a' → gF s' 91 25 = a'.r ∧ gF s' 91 26 = a'.s := by
  rw [Mo_canBe]
  generalize hs0 : sF (sF s 91 25 (gF s 91 9)) 91 26 (0 : Int32) = s0
  have v0 : vw s0 = vw σ := by rw [← hs0, vw_sF (by rfl), vw_sF (by rfl)]; exact v
  obtain ⟨s1, ⟨v1, f1, f2, r1, g1, l1⟩, e1⟩ := loop_ex (N := T) (L := fun n (s : Sg) i => Mo_canBe_L15 fu (fun l1_2 s3 => Mo_canBe_L43 fu (fun l1_13 s14 => some ((1 : Int32), s14)) fu (0 : Int32) s3) n i s) (kont := fun s3 _ => Mo_canBe_L43 fu (fun l1_13 s14 => some ((1 : Int32), s14)) fu (0 : Int32) s3) (fun i s' => vw s' = vw σ ∧ gF s' 91 25 = gF s0 91 25 ∧ gF s' 91 26 = gF s0 91 26 ∧ rowM s' N row ∧ gA s' 103 = gA s 103 ∧ ∀ u, u < i → gA s' 104 u = gA σ 92 u) (by
    rintro n s' i hi ⟨v, q1, q2, q3, q4, q5⟩
    have hin : inb (nI i) 3 = true := inb_nI (by omega) (by decide)
    refine ⟨sA s' 104 i (gA σ 92 i), ?_, by rw [vw_sA (by rfl)]; exact v, q1, q2, fun j hj => by rw [gA_sA_other (by decide)]; exact q3 j hj, by rw [gA_sA_other (by decide)]; exact q4, fun u hu => ?_⟩
    · show Mo_canBe_L15 fu _ (n + 1) (nI i) s' = _
      rw [Mo_canBe_L15, vw_gF v (by rfl), ht, if_neg (nI_ge hi (by omega)), if_pos hin, if_pos hin, ix_nI (by omega), vw_gA v (by rfl), nI_1]
    · rw [gA_sA_same]
      show (if u = i then gA σ 92 i else gA s' 104 u) = _
      by_cases q : u = i
      · rw [if_pos q, q]
      · rw [if_neg q]; exact q5 u (by omega)) (by
    rintro n s' ⟨v, -⟩
    show Mo_canBe_L15 fu _ (n + 1) (nI T) s' = _
    rw [Mo_canBe_L15, vw_gF v (by rfl), ht, if_pos (Int32.le_refl _)]) T fu s0 0 (Nat.zero_add _) (by omega) ⟨v0, rfl, rfl, fun j hj => by rw [← hs0, gA_sF1, gA_sF1]; exact hr j hj, by rw [← hs0, gA_sF1, gA_sF1], fun u hu => absurd hu (by omega)⟩
  have e1' : Mo_canBe_L15 fu (fun l1_2 s3 => Mo_canBe_L43 fu (fun l1_13 s14 => some ((1 : Int32), s14)) fu (0 : Int32) s3) fu (0 : Int32) s0 = Mo_canBe_L43 fu (fun l1_13 s14 => some ((1 : Int32), s14)) fu (0 : Int32) s1 := e1
  rw [e1']
  obtain ⟨s', e', v', r', g', h'⟩ := canBeL43 hfu i2 hN7 hn ht hT3 hrow N fu 0 s1 (a0S σ) (Nat.zero_add _) (by omega) v1 r1 rfl (by rw [f1, ← hs0, gF_sF, if_neg (by decide), gF_sF, if_pos (And.intro rfl rfl), vw_gF v (by rfl)]; rfl) (by rw [f2, ← hs0, gF_sF, if_pos (And.intro rfl rfl)]; rfl) l1
  exact ⟨s', e', v', r', by rw [g', g1], h'⟩
