/-! THE GAME, PLAYED -/
theorem nI_nem1 {j : Nat} (h : j < 2147483648) : ¬ nI j = -1 := by
  intro e
  have := congrArg Int32.toInt e
  rw [nI_toInt h, show ((-1 : Int32)).toInt = -1 by decide] at this
  omega
theorem Cn_play_is {σ : Sg} {N fu m u be : Nat} (hN : gF σ 5 1 = nI N) (hN7 : N ≤ 7) (hfu : 1000 ≤ fu) {co : Nat → Int32} (hco : ∀ i, i < N → costS (gA σ 11 i) (gA σ 13 i) (gA σ 19 i) = co i) (hcr : ∀ i, i < N → ∃ q, co i = nI q ∧ q ≤ 18) (hm : gF σ 5 11 = nI m) (hu : u < 3) (hbe : gA σ 7 u = nI be) (hbe2 : be ≤ 20) :
    ∃ s, Cn_play fu σ (nI u) = some s ∧ vw s = vw σ ∧ (∀ y, y < 2 ^ N → gA s 63 y = (bst (gOp (gA σ 11) (gA σ 17) co (nI be) N m y) (gV (gA σ 15) (gA s 63) y) N).1) ∧ gF s 61 4 = (bst (gOp (gA σ 11) (gA σ 17) co (nI be) N m 0) (gV (gA σ 15) (gA s 63) 0) N).2 := by
  have h7 : 2 ^ N ≤ 2 ^ 7 := Nat.pow_le_pow_right (by decide) hN7
  have hpos : 0 < 2 ^ N := Nat.two_pow_pos N
  rw [Cn_play, Sh_berries, at_be5 hu, bindV_some, bindV_some, hbe]
  obtain ⟨s1, ⟨v1, b1, c1⟩, e1⟩ := loop_ex (N := N) (L := fun n (s : Sg) i => Cn_play_L14 fu (fun l2_6 s7 => bindV (Sh_suits s7 5) fun r8 => bindV (Co_bit r8) fun r9 => Cn_play_L60 fu (fun l2_14 s15 => some s15) fu (r9 - (1 : Int32)) s7) n i s) (kont := fun s7 _ => bindV (Sh_suits s7 5) fun r8 => bindV (Co_bit r8) fun r9 => Cn_play_L60 fu (fun l2_14 s15 => some s15) fu (r9 - (1 : Int32)) s7) (fun i s => vw s = vw σ ∧ gF s 61 3 = nI be ∧ ∀ j, j < i → gA s 65 j = co j) (by
    rintro n s i hi ⟨v, b, c⟩
    refine ⟨sA s 65 i (co i), ?_, ?_, b, ?_⟩
    · show Cn_play_L14 fu _ (n + 1) (nI i) s = _
      rw [Cn_play_L14, Sh_suits, bindV_some, vw_gF v (by rfl), hN, if_neg (nI_ge hi (by omega)), cost5 (by omega), bindV_some, vw_gA v (by rfl), vw_gA v (by rfl), vw_gA v (by rfl), hco i hi, Rw_put_in (n := 7) rfl (by omega) (by decide), bindV_some, nI_1]
    · rw [vw_sA (by rfl)]; exact v
    · intro j hj
      show (if 65 = 65 ∧ j = i then co i else gA s 65 j) = co j
      by_cases q : j = i
      · simp [q]
      · simp [q, c j (by omega)]) (by
    rintro n s ⟨v, b, c⟩
    show Cn_play_L14 fu _ (n + 1) (nI N) s = _
    rw [Cn_play_L14, Sh_suits, bindV_some, vw_gF v (by rfl), hN, if_pos (Int32.le_refl _)]) N fu (sF σ 61 3 (nI be)) 0 (Nat.zero_add N) (by omega) ⟨vw_sF (by rfl), by rw [gF_sF, if_pos ⟨rfl, rfl⟩], fun j hj => absurd hj (by omega)⟩
  have e1' : Cn_play_L14 fu (fun l2_6 s7 => bindV (Sh_suits s7 5) fun r8 => bindV (Co_bit r8) fun r9 => Cn_play_L60 fu (fun l2_14 s15 => some s15) fu (r9 - (1 : Int32)) s7) fu (0 : Int32) (sF σ 61 3 (nI be)) = bindV (Sh_suits s1 5) fun r8 => bindV (Co_bit r8) fun r9 => Cn_play_L60 fu (fun l2_14 s15 => some s15) fu (r9 - (1 : Int32)) s1 := e1
  rw [e1', Sh_suits, bindV_some, vw_gF v1 (by rfl), hN, Co_bit_is, bindV_some, bitI_is N (by omega)]
  obtain ⟨s2, ⟨v2, b2, c2, t2, o2⟩, e2⟩ := loop_down (M := 2 ^ N) (L := fun n (s : Sg) i => Cn_play_L60 fu (fun l2_14 s15 => some s15) n i s) (kont := fun s _ => some s) (fun i s => vw s = vw σ ∧ gF s 61 3 = nI be ∧ (∀ j, j < N → gA s 65 j = co j) ∧ (∀ y, i ≤ y → y < 2 ^ N → gA s 63 y = (bst (gOp (gA σ 11) (gA σ 17) co (nI be) N m y) (gV (gA σ 15) (gA s 63) y) N).1) ∧ (i < 2 ^ N → gF s 61 4 = (bst (gOp (gA σ 11) (gA σ 17) co (nI be) N m i) (gV (gA σ 15) (gA s 63) i) N).2)) (by
    rintro n s i hi ⟨v, b, c, tt, -⟩
    have eb := Cn_bestLead_is (σ := s) (x := i) (m := m) (be := be) (by rw [vw_gF v (by rfl), hN]) hN7 hfu c hcr (by rw [vw_gF v (by rfl), hm]) hi b hbe2
    rw [vw_gA v (by rfl), vw_gA v (by rfl), vw_gA v (by rfl)] at eb
    have hcg : ∀ (z : Int32) (w : Int32) y, i ≤ y → y < 2 ^ N → bst (gOp (gA σ 11) (gA σ 17) co (nI be) N m y) (gV (gA σ 15) (gA (sA (sF s 61 4 w) 63 i z) 63) y) N = bst (gOp (gA σ 11) (gA σ 17) co (nI be) N m y) (gV (gA σ 15) (gA s 63) y) N := by
      intro z w y hy1 hy2
      refine bst_cong (fun j hj ho => ?_)
      have hg := or_gt (gOp_clear (by omega) ho)
      show gA σ 15 j - (if 63 = 63 ∧ (y ||| 2 ^ j) = i then z else gA s 63 (y ||| 2 ^ j)) = _
      rw [if_neg (by omega)]
      rfl
    refine ⟨sA (sF s 61 4 (bst (gOp (gA σ 11) (gA σ 17) co (nI be) N m i) (gV (gA σ 15) (gA s 63) i) N).2) 63 i (bst (gOp (gA σ 11) (gA σ 17) co (nI be) N m i) (gV (gA σ 15) (gA s 63) i) N).1, ?_, ?_, b, c, ?_, ?_⟩
    · show Cn_play_L60 fu _ (n + 1) (nI i) s = _
      rw [Cn_play_L60, if_neg (nI_pos (by omega)), eb, bindP_some, Rw_put_in (n := 128) rfl (by omega) (by decide), bindV_some, sub1]
    · rw [vw_sA (by rfl), vw_sF (by rfl)]; exact v
    · intro y hy1 hy2
      rw [hcg _ _ y hy1 hy2]
      show (if 63 = 63 ∧ y = i then _ else gA s 63 y) = _
      by_cases q : y = i
      · rw [if_pos ⟨rfl, q⟩, q]
      · rw [if_neg (by omega)]
        exact tt y (by omega) hy2
    · intro _
      rw [hcg _ _ i (Nat.le_refl i) hi]
      rw [gF_sA, gF_sF, if_pos (And.intro rfl rfl)]) (by
    rintro n s -
    show Cn_play_L60 fu _ (n + 1) (-1) s = _
    rw [Cn_play_L60, if_pos (by decide)]) (2 ^ N) fu s1 (Nat.le_refl _) (by omega) ⟨v1, b1, c1, fun y h1 h2 => absurd h2 (by omega), fun h => absurd h (by omega)⟩
  exact ⟨s2, e2, v2, fun y hy => t2 y (Nat.zero_le y) hy, o2 hpos⟩
theorem Mo_gameNow_is {σ : Sg} {N fu m u : Nat} (hN : gF σ 91 2 = nI N) (hN7 : N ≤ 7) (hfu : 1000 ≤ fu) {co T : Nat → Int32} (hco : ∀ i, i < N → costS (gA σ 94 i) (gA σ 95 i) (strS (gA σ 97) N i) = co i) (hm : gF σ 91 9 = nI m) (hu : u < 3) (hT : ∀ y, y < 2 ^ N → T y = (bst (gOp (gA σ 94) (gA σ 97) co (gA σ 92 u) N m y) (gV (gA σ 96) T y) N).1) (w : Int32) :
    ∃ s, Mo_gameNow fu σ (nI u) w = some (if w = 0 then T 0 + 100 else (bst (gOp (gA σ 94) (gA σ 97) co (gA σ 92 u) N m 0) (gV (gA σ 96) T 0) N).2, s) ∧ vw s = vw σ ∧ gL s = gL σ := by
  have h7 : 2 ^ N ≤ 2 ^ 7 := Nat.pow_le_pow_right (by decide) hN7
  have hpos : 0 < 2 ^ N := Nat.two_pow_pos N
  have hcg : ∀ (f : Nat → Int32) y, (∀ z, y < z → z < 2 ^ N → f z = T z) → y < 2 ^ N → bst (gOp (gA σ 94) (gA σ 97) co (gA σ 92 u) N m y) (gV (gA σ 96) f y) N = bst (gOp (gA σ 94) (gA σ 97) co (gA σ 92 u) N m y) (gV (gA σ 96) T y) N := by
    intro f y hf hy
    refine bst_cong (fun j hj ho => ?_)
    have hg := or_gt (gOp_clear (by omega) ho)
    rw [gV, gV, hf _ hg (Nat.or_lt_two_pow hy (Nat.pow_lt_pow_right (by decide) hj))]
  have hnext : ∀ s x, vw s = vw σ → x < 2 ^ N → (∀ z, x < z → z < 2 ^ N → gA s 105 z = T z) → Mo_bestNext fu s (nI u) (nI x) = some (bst (gOp (gA σ 94) (gA σ 97) co (gA σ 92 u) N m x) (gV (gA σ 96) T x) N).2 := by
    intro s x v hx ht
    have e := Mo_bestNext_is (σ := s) (x := x) (m := m) (u := u) (co := co) (by rw [vw_gF v (by rfl), hN]) hN7 hfu (by rw [vw_gA v (by rfl), vw_gA v (by rfl), vw_gA v (by rfl)]; exact hco) (by rw [vw_gF v (by rfl), hm]) hx hu
    rw [e, vw_gA v (by rfl), vw_gA v (by rfl), vw_gA v (by rfl), vw_gA v (by rfl), hcg _ x ht hx]
  rw [Mo_gameNow, hN]
  obtain ⟨s2, ⟨v2, g2, t2⟩, e2⟩ := loop_down (M := 2 ^ N) (L := fun n (s : Sg) i => Mo_gameNow_L9 fu (nI u) w (fun l3_4 s5 => if ¬ w = 0 then (bindV (Mo_bestNext fu s5 (nI u) (0 : Int32)) fun r7 => some (r7, s5)) else (if inb (0 : Int32) 128 = true then (some ((gA s5 105 (ix (0 : Int32))) + (100 : Int32), s5)) else none)) n i s) (kont := fun s5 _ => if ¬ w = 0 then (bindV (Mo_bestNext fu s5 (nI u) (0 : Int32)) fun r7 => some (r7, s5)) else (if inb (0 : Int32) 128 = true then (some ((gA s5 105 (ix (0 : Int32))) + (100 : Int32), s5)) else none)) (fun i s => vw s = vw σ ∧ gL s = gL σ ∧ ∀ y, i ≤ y → y < 2 ^ N → gA s 105 y = T y) (by
    rintro n s i hi ⟨v, g, tt⟩
    refine ⟨sA s 105 i (T i), ?_, by rw [vw_sA (by rfl)]; exact v, g, ?_⟩
    · show Mo_gameNow_L9 fu (nI u) w _ (n + 1) (nI i) s = _
      have hin : inb (nI i) 128 = true := inb_nI (by omega) (by decide)
      have hix : ix (nI i) = i := ix_nI (by omega)
      rw [Mo_gameNow_L9, if_neg (nI_pos (by omega)), hnext s i v hi (fun z h1 h2 => tt z (by omega) h2), bindV_some]
      have hT' := hT i hi
      rcases bst_I (gOp (gA σ 94) (gA σ 97) co (gA σ 92 u) N m i) (gV (gA σ 96) T i) N with hb | ⟨j, hj, hb, ho⟩
      · rw [hb] at hT' ⊢
        rw [if_neg (fun z => z rfl), if_pos hin, hix, sub1, hT']
      · rw [hb] at hT' ⊢
        have hg := or_gt (gOp_clear (by omega) ho)
        have hlt : i ||| 2 ^ j < 2 ^ N := Nat.or_lt_two_pow hi (Nat.pow_lt_pow_right (by decide) hj)
        have eor : nI i ||| (1 : Int32) <<< (nI j &&& 31) = nI (i ||| 2 ^ j) := by
          have e := bitI_is j (by omega)
          rw [bitI] at e
          rw [e, nI_or]
        rw [if_pos (nI_nem1 (by omega)), if_pos (inb_nI (by omega) (by decide)), eor, if_pos (inb_nI (by omega) (by decide)), if_pos hin, hix, sub1, ix_nI (by omega), ix_nI (by omega), vw_gA v (by rfl), tt _ (by omega) hlt, hT']
        rfl
    · intro y h1 h2
      show (if 105 = 105 ∧ y = i then T i else gA s 105 y) = T y
      by_cases q : y = i
      · simp [q]
      · rw [if_neg (by omega)]; exact tt y (by omega) h2) (by
    rintro n s -
    show Mo_gameNow_L9 fu (nI u) w _ (n + 1) (-1) s = _
    rw [Mo_gameNow_L9, if_pos (by decide)]) (2 ^ N) fu σ (Nat.le_refl _) (by omega) ⟨rfl, rfl, fun y h1 h2 => absurd h2 (by omega)⟩
  refine ⟨s2, ?_, v2, g2⟩
  rw [show (1 : Int32) <<< (nI N &&& 31) = nI (2 ^ N) from bitI_is N (by omega)]
  refine e2.trans ?_
  show (if ¬ w = 0 then _ else _) = _
  by_cases hw : w = 0
  · rw [if_neg (fun z => z hw), if_pos hw, if_pos (by decide), show ix (0 : Int32) = 0 from rfl, t2 0 (Nat.le_refl 0) hpos]
  · rw [if_pos hw, if_neg hw, show (0 : Int32) = nI 0 from rfl, hnext s2 0 v2 hpos (fun z h1 h2 => t2 z (Nat.zero_le z) h2), bindV_some]
theorem game_is {t fu : Nat} (hfu : 1000 ≤ fu) {σ : Sg} (h : Inv t σ) {T : Nat} (ht : gF σ 5 0 = nI T) (hT3 : T ≤ 3) {u : Nat} (hu : u < T) {w : Int32} (hw : w = 0 ∨ w = 1) : ∃ r σ1, Co_game fu σ (nI u) w = some (r, σ1) ∧ vw σ1 = vw σ ∧ ∀ s, vw s = vw σ → ∃ s2, Mo_gameNow fu s (nI u) w = some (r, s2) ∧ vw s2 = vw s ∧ gL s2 = gL s := by
  obtain ⟨N, T', R, i1, i2, i3, i4, i5, i6, i7⟩ := h
  obtain ⟨n1, n2, t1, t2, n7, t3, -⟩ := i1
  have hTT : T' = T := by
    rw [ht, nI_eq (by omega) (by omega)] at t1
    exact t1.symm
  subst hTT
  obtain ⟨⟨m, w1, w2, w3⟩, -, -⟩ := i3
  have i2' := i2
  obtain ⟨⟨d1, d2, d3, d4, d5, d6⟩, ⟨g1, -⟩, d7⟩ := i2'
  obtain ⟨be, be1, be2⟩ := g1 u (by omega)
  have hs : Sh_hasTree σ 5 (nI u) = some 1 := by
    rcases hasTree5 t1 t3 (nI u) with ⟨-, -, -, ec⟩ | ⟨ho, -⟩
    · exact ec
    · rcases ho with ho | ho
      · exact absurd ho (nI_pos (by omega))
      · rw [nI_leI (by omega) (by omega)] at ho; omega
  obtain ⟨s1, e1, v1, tab, op⟩ := Cn_play_is (σ := σ) (co := fun i => costS (gA σ 11 i) (gA σ 13 i) (gA σ 19 i)) (m := m) (u := u) (be := be) n1 n7 hfu (fun i hi => rfl) (fun i hi => cost_rng n7 i2 hi) w1 (by omega) be1 be2
  have hmod : ∀ s, vw s = vw σ → ∃ s2, Mo_gameNow fu s (nI u) w = some (if w = 0 then gA s1 63 0 + 100 else gF s1 61 4, s2) ∧ vw s2 = vw s ∧ gL s2 = gL s := by
    intro s v
    have hm := Mo_gameNow_is (σ := s) (N := N) (fu := fu) (m := m) (u := u) (co := fun i => costS (gA σ 11 i) (gA σ 13 i) (gA σ 19 i)) (T := gA s1 63) (by rw [vw_gF v (by rfl), n2]) n7 hfu (fun i hi => by rw [vw_gA v (by rfl), vw_gA v (by rfl), vw_gA v (by rfl)]; exact costs_two i2 hi) (by rw [vw_gF v (by rfl), w2]) (by omega) (fun y hy => by rw [vw_gA v (by rfl), vw_gA v (by rfl), vw_gA v (by rfl), vw_gA v (by rfl), ← d3, ← d6, ← d1, ← d5, be1]; exact tab y hy) w
    rw [vw_gA v (by rfl), vw_gA v (by rfl), vw_gA v (by rfl), vw_gA v (by rfl), ← d3, ← d6, ← d1, ← d5, be1, ← op] at hm
    exact hm
  rcases hw with rfl | rfl
  · refine ⟨gA s1 63 0 + 100, s1, ?_, v1, fun s v => by have := hmod s v; rw [if_pos rfl] at this; exact this⟩
    rw [Co_game, hs, bindV_some, if_pos (by decide), if_neg (by decide), if_pos (by decide), e1, bindV_some, if_neg (by decide), Cn_lead, show (0 : Int32) = nI 0 from rfl, Rw_at_in (n := 128) rfl (by decide) (by decide), bindV_some, bindV_some, Int32.add_comm]
  · refine ⟨gF s1 61 4, s1, ?_, v1, fun s v => by have := hmod s v; rw [if_neg (by decide)] at this; exact this⟩
    rw [Co_game, hs, bindV_some, if_pos (by decide), if_neg (by decide), if_pos (by decide), e1, bindV_some, if_pos (by decide), Cn_opening, bindV_some]
theorem two_of {w : Int32} (h0 : ¬ w < 0) (h1 : w ≤ 1) : w = 0 ∨ w = 1 := by
  obtain ⟨j, hj, rfl⟩ := nI_of h0
  rw [show (1 : Int32) = nI 1 from rfl, nI_leI hj (by omega)] at h1
  rcases (by omega : j = 0 ∨ j = 1) with rfl | rfl
  · exact Or.inl rfl
  · exact Or.inr rfl
theorem op_game {t fu : Nat} (hfu : 1000 ≤ fu) {σ : Sg} (h : Inv t σ) (a b : Int32) : opP t (Co_game fu σ a b) (fun s => Mo_game fu s a b) := by
  have hI : Inv (t + 1) σ := h.mono (by omega)
  have h' := h
  obtain ⟨N, T, R, ⟨n1, n2, t1, t2, n7, t3, -⟩, -⟩ := h'
  rcases hasTree5 t1 t3 a with ⟨u, hu, rfl, ec⟩ | ⟨ho, ec⟩
  · have m1 : Mo_isTree σ (nI u) = some 1 := isTree_in t2 t3 hu
    by_cases hb0 : b < 0
    · exact ⟨-102, σ, σ, by rw [Co_game, ec, bindV_some, if_pos (by decide), if_pos hb0], by show Mo_game fu σ (nI u) b = _; rw [Mo_game, m1, bindV_some, if_pos (by decide), within_is, bindV_some, if_pos]; simp [hb0, b2], hI⟩
    by_cases hb1 : b ≤ 1
    · obtain ⟨r, σ1, e1, v1, hm⟩ := game_is hfu h t1 t3 hu (two_of hb0 hb1)
      obtain ⟨s2, e2, v2, -⟩ := hm σ1 v1
      refine ⟨r, σ1, s2, e1, ?_, hI.of_vw (v2.trans v1)⟩
      show Mo_game fu σ1 (nI u) b = _
      have m1' : Mo_isTree σ1 (nI u) = some 1 := isTree_in (by rw [vw_gF v1 (by rfl)]; exact t2) t3 hu
      have hb2 : ¬ 1 < b := Int32.not_lt.mpr hb1
      rw [Mo_game, m1', bindV_some, if_pos (by decide), within_is, bindV_some, if_neg, e2, bindP_some]
      simp [hb0, hb2, b2]
    · have hb2 : 1 < b := Int32.not_le.mp hb1
      exact ⟨-102, σ, σ, by rw [Co_game, ec, bindV_some, if_pos (by decide), if_neg hb0, if_neg hb1], by show Mo_game fu σ (nI u) b = _; rw [Mo_game, m1, bindV_some, if_pos (by decide), within_is, bindV_some, if_pos]; simp [hb2, b2], hI⟩
  · exact ⟨-101, σ, σ, by rw [Co_game, ec, bindV_some, if_neg (by decide)], by show Mo_game fu σ a b = _; rw [Mo_game, isTree_out t2 t3 ho, bindV_some, if_neg (by decide)], hI⟩
