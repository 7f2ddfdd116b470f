/-! YEARS, TREES, RIGHTINGS, COUNTS -/
def yv (x y : Int32) : Int32 := if x + y < 20 then x + y else 20
def yrA (σ : Sg) (be bi n : Nat) : Sg := (σ.1, fun a b => if a = be ∧ b < n then yv (σ.2.1 be b) (σ.2.1 bi b) else σ.2.1 a b, σ.2.2)
theorem gA_yrA (σ : Sg) (be bi n a b : Nat) : gA (yrA σ be bi n) a b = if a = be ∧ b < n then yv (gA σ be b) (gA σ bi b) else gA σ a b := rfl
theorem yrA_0 (σ : Sg) (be bi : Nat) : yrA σ be bi 0 = σ := by
  obtain ⟨f, a, l⟩ := σ
  simp [yrA]
theorem yrA_succ {σ : Sg} {be bi i : Nat} {v : Int32} (hv : v = yv (gA σ be i) (gA σ bi i)) : sA (yrA σ be bi i) be i v = yrA σ be bi (i + 1) := by
  subst hv
  refine Prod.ext rfl (Prod.ext ?_ rfl)
  funext a b
  simp only [sA, yrA, gA]
  by_cases h1 : a = be <;> by_cases h3 : b = i <;> by_cases h4 : b < i <;> simp [h1, h3, h4] <;> omega
theorem yv_le (x y : Int32) : (if x + y ≤ 20 then x + y else 20) = yv x y := by
  rw [yv]
  by_cases h : x + y < 20
  · rw [if_pos h, if_pos (Int32.le_of_lt h)]
  · by_cases h2 : x + y ≤ 20
    · rw [if_pos h2, if_neg h]
      exact Int32.le_antisymm h2 (Int32.not_lt.mp h)
    · rw [if_neg h2, if_neg h]
theorem yv_rng {f g : Nat → Int32} {n hi : Nat} (hh : hi ≤ 1000) (hf : rng f n 20) (hg : rng g n hi) : rng (fun i => yv (f i) (g i)) n 20 := by
  intro i hi
  obtain ⟨a, a1, a2⟩ := hf i hi
  obtain ⟨b, b1, b2⟩ := hg i hi
  show ∃ c, yv (f i) (g i) = nI c ∧ c ≤ 20
  rw [a1, b1, yv, nI_add, show (20 : Int32) = nI 20 from rfl]
  have e := nI_ltI (a := a + b) (b := 20) (by omega) (by omega)
  by_cases h : a + b < 20
  · exact ⟨a + b, by rw [if_pos (e.mpr h)], by omega⟩
  · exact ⟨20, by rw [if_neg (fun z => h (e.mp z))], Nat.le_refl 20⟩
theorem passYear5 {σ : Sg} {T fu : Nat} (hT : gF σ 5 0 = nI T) (hT3 : T ≤ 3) (hfu : 1000 ≤ fu) : Sh_passYear fu σ 5 = some (sF (yrA σ 7 9 T) 5 12 (gF σ 5 12 + 1)) := by
  rw [Sh_passYear]
  have h := loop_seq (N := T) (L := fun m i s => Sh_passYear_L2 fu 5 (fun l1_5 s6 => some (sF s6 5 12 ((gF s6 5 12) + (1 : Int32)))) m i s) (kont := fun _ s6 => some (sF s6 5 12 ((gF s6 5 12) + (1 : Int32)))) (fun i => yrA σ 7 9 i) ?_ ?_ T fu 0 (Nat.zero_add T) (by omega)
  · rw [yrA_0] at h
    exact h
  · intro m i hi
    show Sh_passYear_L2 fu 5 _ (m + 1) (nI i) _ = _
    have hT' : gF (yrA σ 7 9 i) 5 0 = nI T := hT
    rw [Sh_passYear_L2, hT', if_neg (nI_ge hi (by omega)), at_be5 (by omega), bindV_some, at_bi5 (by omega), bindV_some, Rw_put_in (n := 3) rfl (by omega) (by decide), bindV_some, nI_1]
    have e1 : gA (yrA σ 7 9 i) 7 i = gA σ 7 i := by rw [gA_yrA, if_neg (by omega)]
    have e2 : gA (yrA σ 7 9 i) 9 i = gA σ 9 i := by rw [gA_yrA, if_neg (by omega)]
    rw [e1, e2, show 5 + 1 + 1 = 7 from rfl, yrA_succ (by rfl)]
  · intro m
    show Sh_passYear_L2 fu 5 _ (m + 1) (nI T) _ = _
    have hT' : gF (yrA σ 7 9 T) 5 0 = nI T := hT
    rw [Sh_passYear_L2, hT', if_pos (Int32.le_refl _)]
theorem passYear67 {σ : Sg} {T fu : Nat} (hT : gF σ 67 0 = nI T) (hT3 : T ≤ 3) (hfu : 1000 ≤ fu) : Sh_passYear fu σ 67 = some (sF (yrA σ 69 71 T) 67 12 (gF σ 67 12 + 1)) := by
  rw [Sh_passYear]
  have h := loop_seq (N := T) (L := fun m i s => Sh_passYear_L2 fu 67 (fun l1_5 s6 => some (sF s6 67 12 ((gF s6 67 12) + (1 : Int32)))) m i s) (kont := fun _ s6 => some (sF s6 67 12 ((gF s6 67 12) + (1 : Int32)))) (fun i => yrA σ 69 71 i) ?_ ?_ T fu 0 (Nat.zero_add T) (by omega)
  · rw [yrA_0] at h
    exact h
  · intro m i hi
    show Sh_passYear_L2 fu 67 _ (m + 1) (nI i) _ = _
    have hT' : gF (yrA σ 69 71 i) 67 0 = nI T := hT
    rw [Sh_passYear_L2, hT', if_neg (nI_ge hi (by omega)), at_be67 (by omega), bindV_some, at_bi67 (by omega), bindV_some, Rw_put_in (n := 3) rfl (by omega) (by decide), bindV_some, nI_1]
    have e1 : gA (yrA σ 69 71 i) 69 i = gA σ 69 i := by rw [gA_yrA, if_neg (by omega)]
    have e2 : gA (yrA σ 69 71 i) 71 i = gA σ 71 i := by rw [gA_yrA, if_neg (by omega)]
    rw [e1, e2, show 67 + 1 + 1 = 69 from rfl, yrA_succ (by rfl)]
  · intro m
    show Sh_passYear_L2 fu 67 _ (m + 1) (nI T) _ = _
    have hT' : gF (yrA σ 69 71 T) 67 0 = nI T := hT
    rw [Sh_passYear_L2, hT', if_pos (Int32.le_refl _)]
theorem Mo_goYear_is {σ : Sg} {T fu : Nat} (hT : gF σ 91 1 = nI T) (hT3 : T ≤ 3) (hfu : 1000 ≤ fu) : Mo_goYear fu σ = some (yrA σ 92 93 T) := by
  rw [Mo_goYear]
  have h := loop_seq (N := T) (L := fun m i s => Mo_goYear_L2 fu (fun l1_3 s4 => some s4) m i s) (kont := fun _ s4 => some s4) (fun i => yrA σ 92 93 i) ?_ ?_ T fu 0 (Nat.zero_add T) (by omega)
  · rw [yrA_0] at h
    exact h
  · intro m i hi
    show Mo_goYear_L2 fu _ (m + 1) (nI i) _ = Mo_goYear_L2 fu _ m _ _
    have hT' : gF (yrA σ 92 93 i) 91 1 = nI T := hT
    have hin : inb (nI i) 3 = true := inb_nI (by omega) (by decide)
    have e1 : gA (yrA σ 92 93 i) 92 i = gA σ 92 i := by rw [gA_yrA, if_neg (by omega)]
    have e2 : gA (yrA σ 92 93 i) 93 i = gA σ 93 i := by rw [gA_yrA, if_neg (by omega)]
    rw [Mo_goYear_L2, hT', if_neg (nI_ge hi (by omega))]
    simp only [hin, if_true, ix_nI (show i < 2147483648 by omega), nI_1, e1, e2]
    have e3 := yv_le (gA σ 92 i) (gA σ 93 i)
    by_cases hq : gA σ 92 i + gA σ 93 i ≤ 20
    · rw [if_pos hq] at e3 ⊢
      rw [yrA_succ e3]
    · rw [if_neg hq] at e3 ⊢
      rw [yrA_succ e3]
  · intro m
    show Mo_goYear_L2 fu _ (m + 1) (nI T) _ = _
    have hT' : gF (yrA σ 92 93 T) 91 1 = nI T := hT
    rw [Mo_goYear_L2, hT', if_pos (Int32.le_refl _)]
theorem op_year {t fu : Nat} (ht : t ≤ 900) (hfu : 1000 ≤ fu) {σ : Sg} (h : Inv t σ) : opP t (Co_year fu σ) (fun s => Mo_year fu s) := by
  obtain ⟨N, T, R, i1, i2, i3, i4, i5, i6, i7⟩ := h
  have hI : Inv (t + 1) σ := ⟨N, T, R, i1.mono (by omega), i2, i3.mono (by omega), i4, i5, i6, i7.mono (by omega)⟩
  have i1' := i1
  obtain ⟨n1, n2, t1, t2, n7, t3, r1, r2, r3, r4, r5⟩ := i1'
  by_cases hR : R = 0
  · have hN0 := (r4 hR).1
    subst hN0
    refine ⟨-103, σ, σ, ?_, ?_, hI⟩
    · rw [Co_year, Co_isRead_out (by rw [r1, hR]), bindV_some, if_neg (by decide)]
    · show Mo_year fu σ = _
      rw [Mo_year, n2, if_neg (by decide)]
  · have hN2 := (r5 (by omega)).1
    have hNz : ¬ gF σ 91 2 = 0 := by rw [n2]; exact nI_ne0 (by omega) (by omega)
    obtain ⟨⟨m, m1, m2, m3⟩, ⟨y, y1, y2, y3⟩, ⟨o, o1, o2, o3⟩⟩ := i3
    obtain ⟨⟨d1, d2, d3, d4, d5, d6⟩, ⟨g1, g2, g3, g4, g5, g6⟩, d7⟩ := i2
    refine ⟨nI (y + 1), sF (yrA σ 7 9 T) 5 12 (nI (y + 1)), sF (yrA (sF (yrA σ 7 9 T) 5 12 (nI (y + 1))) 92 93 T) 91 11 (nI (y + 1)), ?_, ?_, ?_⟩
    · rw [Co_year, Co_isRead_in r1 (by omega) (by omega), bindV_some, if_pos (by decide), Sh_years, bindV_some, y1, if_pos (by rw [show (999 : Int32) = nI 999 from rfl, nI_ltI (by omega) (by omega)]; omega), passYear5 t1 t3 hfu, bindV_some, y1, nI_1, Sh_years, bindV_some]
      rfl
    · show Mo_year fu (sF (yrA σ 7 9 T) 5 12 (nI (y + 1))) = _
      have y2' : gF (sF (yrA σ 7 9 T) 5 12 (nI (y + 1))) 91 11 = nI y := y2
      have y2'' : gF (yrA (sF (yrA σ 7 9 T) 5 12 (nI (y + 1))) 92 93 T) 91 11 = nI y := y2
      have hNz' : ¬ gF (sF (yrA σ 7 9 T) 5 12 (nI (y + 1))) 91 2 = 0 := hNz
      rw [Mo_year, if_pos hNz', y2', if_pos (by rw [show (999 : Int32) = nI 999 from rfl, nI_eq (by omega) (by omega)]; omega), Mo_goYear_is (σ := sF (yrA σ 7 9 T) 5 12 (nI (y + 1))) t2 t3 hfu, bindV_some, y2'', nI_1]
      rfl
    · refine ⟨N, T, R, i1.mono (by omega), ⟨⟨?_, d2, d3, d4, d5, d6⟩, ⟨?_, g2, g3, g4, g5, g6⟩, d7⟩, ⟨⟨m, m1, m2, m3⟩, ⟨y + 1, rfl, rfl, by omega⟩, ⟨o, o1, o2, by omega⟩⟩, i4, i5, i6, i7.mono (by omega)⟩
      · funext i
        show (if 7 = 7 ∧ i < T then yv (gA σ 7 i) (gA σ 9 i) else gA σ 7 i) = (if 92 = 92 ∧ i < T then yv (gA σ 92 i) (gA σ 93 i) else gA σ 92 i)
        rw [d1, d2]; simp
      · intro i hi
        show ∃ c, (if 7 = 7 ∧ i < T then yv (gA σ 7 i) (gA σ 9 i) else gA σ 7 i) = nI c ∧ c ≤ 20
        by_cases hiT : i < T
        · rw [if_pos ⟨rfl, hiT⟩]
          exact yv_rng (by decide) g1 g2 i hi
        · rw [if_neg (fun z => hiT z.2)]
          exact g1 i hi
/-- the two sides' ways to say which cases may be righted are one -/
theorem poss_two {σ : Sg} {N : Nat} (i2 : I2 σ N) (be : Int32) (r : Int32) : possS (openS (gA σ 94) (gA σ 97) r) (fun c => costS (gA σ 94 c) (gA σ 95 c) (strS (gA σ 97) N c)) be N = possS (openS (gA σ 11) (gA σ 17) r) (fun c => costS (gA σ 11 c) (gA σ 13 c) (gA σ 19 c)) be N := by
  obtain ⟨⟨d1, d2, d3, d4, d5, d6⟩, -, d7⟩ := i2
  rw [← d3, ← d4, ← d6]
  refine fo_cong N 0 _ (fun j b h1 h2 => ?_)
  have e := (d7 j (by omega)).1
  simp only [e]
theorem Mo_treeNow_is {σ : Sg} {N T fu : Nat} (hN : gF σ 91 2 = nI N) (hN7 : N ≤ 7) (hfu : 1000 ≤ fu) {t : Nat} (ht : t < 3) (w : Int32) : Mo_treeNow fu σ (nI t) w = some (if w = 0 then gA σ 92 t else if w = 1 then gA σ 93 t else possS (openS (gA σ 94) (gA σ 97) (gF σ 91 9)) (fun c => costS (gA σ 94 c) (gA σ 95 c) (strS (gA σ 97) N c)) (gA σ 92 t) N) := by
  have hin : inb (nI t) 3 = true := inb_nI ht (by decide)
  rw [Mo_treeNow, show ((0 : Int32)) = nI 0 from rfl]
  refine (Mo_treeNow_L5_is hN hN7 hfu ht w _).trans ?_
  rw [show nI 0 = (0 : Int32) from rfl]
  by_cases h0 : w = 0
  · rw [if_neg (fun z => z h0), if_pos hin, if_pos h0, ix_nI (by omega)]
  · by_cases h1 : w = 1
    · rw [if_pos h0, if_neg (fun z => z h1), if_pos hin, if_neg h0, if_pos h1, ix_nI (by omega)]
    · rw [if_pos h0, if_pos h1, if_neg h0, if_neg h1]
theorem op_tree {t fu : Nat} (hfu : 1000 ≤ fu) {σ : Sg} (h : Inv t σ) (a b : Int32) : opQ (Co_tree fu σ a b) (Mo_tree fu σ a b) := by
  obtain ⟨N, T, R, ⟨n1, n2, t1, t2, n7, t3, -⟩, i2, ⟨⟨m, m1, m2, m3⟩, -⟩, -⟩ := h
  have i2' := i2
  obtain ⟨⟨d1, d2, d3, d4, d5, d6⟩, -, -⟩ := i2'
  rcases hasTree5 t1 t3 a with ⟨c, hc, rfl, e⟩ | ⟨ho, e⟩
  · have q1 : Mo_isTree σ (nI c) = some 1 := isTree_in t2 t3 hc
    by_cases h0 : b = 0
    · subst h0
      exact ⟨gA σ 7 c, by rw [Co_tree, e, bindV_some, if_pos (by decide), if_pos rfl, Sh_berries, at_be5 (by omega), bindV_some, bindV_some], by rw [Mo_tree, q1, bindV_some, if_pos (by decide), within_is, bindV_some, if_neg (by decide), Mo_treeNow_is (T := T) n2 n7 hfu (by omega), bindV_some, if_pos rfl, d1]⟩
    · by_cases h1 : b = 1
      · subst h1
        exact ⟨gA σ 9 c, by rw [Co_tree, e, bindV_some, if_pos (by decide), if_neg (by decide), if_pos rfl, Sh_birdsAt, at_bi5 (by omega), bindV_some, bindV_some], by rw [Mo_tree, q1, bindV_some, if_pos (by decide), within_is, bindV_some, if_neg (by decide), Mo_treeNow_is (T := T) n2 n7 hfu (by omega), bindV_some, if_neg (by decide), if_pos rfl, d2]⟩
      · by_cases h2 : b = 2
        · subst h2
          refine ⟨_, by rw [Co_tree, e, bindV_some, if_pos (by decide), if_neg (by decide), if_neg (by decide), if_pos rfl, possibleAt5 n1 n7 hfu (by omega), bindV_some], ?_⟩
          rw [Mo_tree, q1, bindV_some, if_pos (by decide), within_is, bindV_some, if_neg (by decide), Mo_treeNow_is (T := T) n2 n7 hfu (by omega), bindV_some, if_neg (by decide), if_neg (by decide), poss_two i2, m1, m2, d1]
        · refine ⟨-102, by rw [Co_tree, e, bindV_some, if_pos (by decide), if_neg h0, if_neg h1, if_neg h2], ?_⟩
          rw [Mo_tree, q1, bindV_some, if_pos (by decide), within_is, bindV_some, if_pos]
          rw [b2_eq0]
          by_cases z0 : b < 0
          · simp [z0]
          · by_cases z2 : 2 < b
            · simp [z2]
            · obtain ⟨x, hx, rfl⟩ := nI_of z0
              rw [show (2 : Int32) = nI 2 from rfl, nI_ltI (by omega) hx] at z2
              have : x = 0 ∨ x = 1 ∨ x = 2 := by omega
              rcases this with rfl | rfl | rfl
              · exact absurd rfl h0
              · exact absurd rfl h1
              · exact absurd rfl h2
  · exact ⟨-101, by rw [Co_tree, e, bindV_some, if_neg (by decide)], by simp [Mo_tree, isTree_out t2 t3 ho, bindV_some]⟩
theorem pluck5 {σ : Sg} {c t : Nat} (hc : c < 7) (ht : t < 3) : Sh_pluckAndRight σ 5 (nI c) (nI t) = some (sF (sF (sA σ 7 t (gA σ 7 t - costS (gA σ 11 c) (gA σ 13 c) (gA σ 19 c))) 5 11 ((gF σ 5 11 ||| bitI c) &&& (gA σ 21 c ^^^ (-1)))) 5 13 (gF σ 5 13 + 1)) := by
  rw [Sh_pluckAndRight, at_be5 ht, bindV_some, cost5 hc, bindV_some, Rw_put_in (n := 3) rfl ht (by decide), bindV_some, Sh_rightedBehind, Co_bit_is, bindV_some, at_bl5 hc, bindV_some, bindV_some]
  rfl
theorem pluck67 {σ : Sg} {c t : Nat} (hc : c < 7) (ht : t < 3) : Sh_pluckAndRight σ 67 (nI c) (nI t) = some (sF (sF (sA σ 69 t (gA σ 69 t - costS (gA σ 73 c) (gA σ 75 c) (gA σ 81 c))) 67 11 ((gF σ 67 11 ||| bitI c) &&& (gA σ 83 c ^^^ (-1)))) 67 13 (gF σ 67 13 + 1)) := by
  rw [Sh_pluckAndRight, at_be67 ht, bindV_some, cost67 hc, bindV_some, Rw_put_in (n := 3) rfl ht (by decide), bindV_some, Sh_rightedBehind, Co_bit_is, bindV_some, at_bl67 hc, bindV_some, bindV_some]
  rfl
