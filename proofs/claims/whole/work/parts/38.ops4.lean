/-! RIGHTING, COUNTING -/
def costN (k n s : Nat) : Nat := if k = 1 then (if 1 < n - s then n - s else 1) else if k = 2 then 2 * n else if k = 4 then ((if 1 < n - s then n - s else 1) + 1) / 2 else n
theorem costN_is : ∀ k, k < 5 → ∀ n, n < 10 → ∀ s, s < 8 → costS (nI k) (nI n) (nI s) = nI (costN k n s) ∧ costN k n s ≤ 18 := by decide +kernel
theorem strS_rng (ha : Nat → Int32) (N c : Nat) : ∃ s, strS ha N c = nI s ∧ s ≤ N := by
  have h := fo_inv (f := fun i a => a + (if ha i = nI c then 1 else 0)) (fun i a => ∃ s, a = nI s ∧ s ≤ i) N 0 0 ⟨0, rfl, Nat.le_refl 0⟩ ?_
  · rw [Nat.zero_add] at h
    exact h
  · rintro j a - - ⟨s, rfl, h1⟩
    show ∃ s', nI s + (if ha j = nI c then 1 else 0) = nI s' ∧ s' ≤ j + 1
    by_cases q : ha j = nI c
    · exact ⟨s + 1, by rw [if_pos q, nI_1], by omega⟩
    · exact ⟨s, by rw [if_neg q, show (0 : Int32) = nI 0 from rfl, nI_add, Nat.add_zero], by omega⟩
theorem cost_rng {σ : Sg} {N : Nat} (hN : N ≤ 7) (i2 : I2 σ N) {c : Nat} (hc : c < N) : ∃ q, costS (gA σ 11 c) (gA σ 13 c) (gA σ 19 c) = nI q ∧ q ≤ 18 := by
  obtain ⟨-, ⟨g1, g2, g3, g4, g5, g6⟩, d7⟩ := i2
  obtain ⟨k, k1, k2⟩ := g3 c (by omega)
  obtain ⟨n, n1, n2⟩ := g4 c (by omega)
  obtain ⟨s, s1, s2⟩ := strS_rng (gA σ 17) N c
  have h := costN_is k (by omega) n (by omega) s (by omega)
  exact ⟨_, by rw [k1, n1, (d7 c hc).1, s1, h.1], h.2⟩
theorem costs_two {σ : Sg} {N : Nat} (i2 : I2 σ N) {c : Nat} (hc : c < N) : costS (gA σ 94 c) (gA σ 95 c) (strS (gA σ 97) N c) = costS (gA σ 11 c) (gA σ 13 c) (gA σ 19 c) := by
  obtain ⟨⟨d1, d2, d3, d4, d5, d6⟩, -, d7⟩ := i2
  rw [← d3, ← d4, ← d6, (d7 c hc).1]
theorem op_right {t fu : Nat} (ht : t ≤ 900) (hfu : 1000 ≤ fu) {σ : Sg} (h : Inv t σ) (a b : Int32) : opP t (Co_right σ a b) (fun s => Mo_right fu s a b) := by
  obtain ⟨N, T, R, i1, i2, i3, i4, i5, i6, i7⟩ := h
  have hI : Inv (t + 1) σ := ⟨N, T, R, i1.mono (by omega), i2, i3.mono (by omega), i4, i5, i6, i7.mono (by omega)⟩
  have i1' := i1
  obtain ⟨n1, n2, t1, t2, n7, t3, -⟩ := i1'
  rcases hasSuit5 n1 n7 a with ⟨c, hc, rfl, ec⟩ | ⟨ho, ec⟩
  · have m1 : Mo_isCase σ (nI c) = some 1 := isCase_in n2 n7 hc
    rcases hasTree5 t1 t3 b with ⟨u, hu, rfl, eu⟩ | ⟨ho, eu⟩
    · have m2 : Mo_isTree σ (nI u) = some 1 := isTree_in t2 t3 hu
      obtain ⟨⟨m, w1, w2, w3⟩, ⟨y, y1, y2, y3⟩, ⟨o, o1, o2, o3⟩⟩ := i3
      have i2' := i2
      obtain ⟨⟨d1, d2, d3, d4, d5, d6⟩, ⟨g1, g2, g3, g4, g5, g6⟩, d7⟩ := i2'
      have h7 : 2 ^ N ≤ 2 ^ 7 := Nat.pow_le_pow_right (by decide) n7
      have ep := isPossible5 (σ := σ) (c := c) (t := u) (by omega) (by omega)
      have em := Mo_mayRight_is (σ := σ) (c := c) (t := u) n2 n7 hfu (by omega) (by omega)
      rw [w1] at ep
      rw [w2, costs_two i2 hc, ← d3, ← d6, ← d1] at em
      generalize hpo : (openS (gA σ 11) (gA σ 17) (nI m) c && !decide (gA σ 7 u < costS (gA σ 11 c) (gA σ 13 c) (gA σ 19 c))) = po at ep em
      cases po with
      | false =>
        refine ⟨-103, σ, σ, ?_, ?_, hI⟩
        · rw [Co_right, ec, bindV_some, if_neg (by decide), eu, bindV_some, if_pos (by decide), ep, bindV_some, if_neg (by decide)]
        · show Mo_right fu σ (nI c) (nI u) = _
          rw [Mo_right, m1, bindV_some, if_neg (by decide), m2, bindV_some, if_pos (by decide), em, bindV_some, if_neg (by decide)]
      | true =>
        obtain ⟨q, q1, q2⟩ := cost_rng n7 i2 hc
        obtain ⟨be, be1, be2⟩ := g1 u (by omega)
        have hge : q ≤ be := by
          rw [Bool.and_eq_true] at hpo
          have h8 := hpo.2
          rw [be1, q1] at h8
          have h9 : ¬ nI be < nI q := by simpa using h8
          rw [nI_ltI (by omega) (by omega)] at h9
          omega
        obtain ⟨M, M1, M2, M3⟩ := allS_bits (gA σ 17) n7 hc
        have hM : gA σ 21 c = nI M := by rw [(d7 c hc).2, M1]
        obtain ⟨m', e1, e2⟩ := right_set w3 n7 hc (gA σ 21 c)
        have hsz : m &&& M < 128 := Nat.lt_of_le_of_lt Nat.and_le_left (by omega)
        have o9 : nI o < 999 := by rw [show (999 : Int32) = nI 999 from rfl, nI_ltI (by omega) (by omega)]; omega
        have o9' : ¬ nI o = 999 := by rw [show (999 : Int32) = nI 999 from rfl, nI_eq (by omega) (by omega)]; omega
        refine ⟨sizeS (nI (m &&& M)), sF (sF (sA σ 7 u (nI (be - q))) 5 11 (nI m')) 5 13 (nI (o + 1)), sF (sF (sA (sF (sF (sA σ 7 u (nI (be - q))) 5 11 (nI m')) 5 13 (nI (o + 1))) 92 u (nI (be - q))) 91 9 (nI m')) 91 10 (nI (o + 1)), ?_, ?_, ?_⟩
        · rw [Co_right, ec, bindV_some, if_neg (by decide), eu, bindV_some, if_pos (by decide), ep, bindV_some, if_pos (by decide), Sh_rightings, bindV_some, o1, if_pos o9, Sh_shakes, at_bl5 (by omega), bindV_some, w1, hM, nI_and, bitCount_is _ hsz, bindV_some, bindV_some, pluck5 (by omega) (by omega), bindV_some, q1, be1, pk_sub hge, w1, e1, o1, nI_1]
        · generalize hs : sF (sF (sA σ 7 u (nI (be - q))) 5 11 (nI m')) 5 13 (nI (o + 1)) = s'
          have f1 : Mo_isCase s' (nI c) = some 1 := by rw [← hs]; exact m1
          have f2 : Mo_isTree s' (nI u) = some 1 := by rw [← hs]; exact m2
          have n2' : gF s' 91 2 = nI N := by rw [← hs]; exact n2
          have f3 : gF s' 91 9 = nI m := by rw [← hs]; exact w2
          have f4 : gF s' 91 10 = nI o := by rw [← hs]; exact o2
          have f5 : gA s' 94 = gA σ 94 := by rw [← hs]; rfl
          have f6 : gA s' 95 = gA σ 95 := by rw [← hs]; rfl
          have f7 : gA s' 97 = gA σ 97 := by rw [← hs]; rfl
          have f8 : gA s' 92 = gA σ 92 := by rw [← hs]; rfl
          have em' := Mo_mayRight_is (σ := s') (c := c) (t := u) n2' n7 hfu (by omega) (by omega)
          rw [f3, f5, f6, f7, f8, costs_two i2 hc, ← d3, ← d6, ← d1, hpo] at em'
          have ea := Mo_allOn_is (σ := s') n2' n7 hfu hc
          rw [f7, ← d6, ← (d7 c hc).2, hM] at ea
          have eco := Mo_cost_is (σ := s') n2' n7 hfu (show c < 7 by omega)
          rw [f5, f6, f7, costs_two i2 hc, q1] at eco
          have hin : inb (nI u) 3 = true := inb_nI (by omega) (by decide)
          show Mo_right fu s' (nI c) (nI u) = _
          rw [Mo_right, f1, bindV_some, if_neg (by decide), f2, bindV_some, if_pos (by decide), em', bindV_some, if_pos (by decide), f4, if_pos o9', ea, bindV_some, if_pos hin, eco, bindV_some, if_pos hin, f3, nI_and, Mo_size_is hfu, bindV_some, ix_nI (by omega), f8, ← d1, be1, pk_sub hge]
          have g1' : gF (sA s' 92 u (nI (be - q))) 91 9 = nI m := f3
          have g2' : ∀ v, gF (sF (sA s' 92 u (nI (be - q))) 91 9 v) 91 10 = nI o := fun v => f4
          rw [g1', g2', nI_1, Nat.and_comm M m]
          have e3 : (nI m &&& (nI (m &&& M) ^^^ -1)) ||| (1 : Int32) <<< (nI c &&& 31) = nI m' := by
            rw [← e1, hM, right_two (r := nI m) (b := bitI c) (l := nI M) (by rw [← M1]; exact allS_apart (gA σ 17) n7 hc), nI_and, Nat.and_comm M m]
            rfl
          rw [e3]
        · refine ⟨N, T, R, i1.mono (by omega), ⟨⟨?_, d2, d3, d4, d5, d6⟩, ⟨?_, g2, g3, g4, g5, g6⟩, d7⟩, ⟨⟨m', rfl, rfl, e2⟩, ⟨y, y1, y2, by omega⟩, ⟨o + 1, rfl, rfl, by omega⟩⟩, i4, i5, i6, i7.mono (by omega)⟩
          · funext i
            show (if 7 = 7 ∧ i = u then nI (be - q) else gA σ 7 i) = (if 92 = 92 ∧ i = u then nI (be - q) else gA σ 92 i)
            rw [d1]; simp
          · intro i hi
            show ∃ b, (if 7 = 7 ∧ i = u then nI (be - q) else gA σ 7 i) = nI b ∧ b ≤ 20
            by_cases hic : i = u
            · exact ⟨be - q, by simp [hic], by omega⟩
            · obtain ⟨b, b1, b2⟩ := g1 i hi
              exact ⟨b, by simp [hic, b1], b2⟩
    · exact ⟨-101, σ, σ, by rw [Co_right, ec, bindV_some, if_neg (by decide), eu, bindV_some, if_neg (by decide)], by simp [Mo_right, m1, isTree_out t2 t3 ho, bindV_some], hI⟩
  · exact ⟨-101, σ, σ, by rw [Co_right, ec, bindV_some, if_pos (by decide)], by simp [Mo_right, isCase_out n2 n7 ho, bindV_some], hI⟩
def sumS (f : Nat → Int32) (T : Nat) : Int32 := fo (fun i a => a + f i) T 0 0
theorem Rw_sum_is {σ : Sg} {r T fu : Nat} (hr : jv_ln (r + 1) = 3) (hT : T ≤ 3) (hfu : 1000 ≤ fu) : Rw_sum fu σ r (nI T) = some (sumS (gA σ (r + 1)) T) := by
  rw [Rw_sum, show (0 : Int32) = nI 0 from rfl]
  refine (loop_f0 (N := T) (L := fun n acc i => Rw_sum_L4 fu r (nI T) σ (fun l2_3 l3_4 => some l2_3) n acc i) (kont := fun a _ => some a) (f := fun i a => a + gA σ (r + 1) i) ?_ ?_ T fu (nI 0) 0 (Nat.zero_add T) (by omega)).trans rfl
  · intro n acc i hi
    show Rw_sum_L4 fu r (nI T) σ _ (n + 1) acc (nI i) = _
    rw [Rw_sum_L4, if_neg (nI_ge hi (by omega)), Rw_at_in hr (by omega) (by decide), bindV_some, nI_1]
  · intro n acc
    show Rw_sum_L4 fu r (nI T) σ _ (n + 1) acc (nI T) = _
    rw [Rw_sum_L4, if_pos (Int32.le_refl _)]
theorem Mo_ofTrees_is {σ : Sg} {N T fu : Nat} (hN : gF σ 91 2 = nI N) (hN7 : N ≤ 7) (hT : gF σ 91 1 = nI T) (hT3 : T ≤ 3) (hfu : 1000 ≤ fu) {w : Int32} {f : Nat → Int32} (hw : ∀ i, i < 3 → Mo_treeNow fu σ (nI i) w = some (f i)) : Mo_ofTrees fu σ w = some (sumS f T) := by
  rw [Mo_ofTrees, show (0 : Int32) = nI 0 from rfl]
  refine (loop_f0 (N := T) (L := fun n acc i => Mo_ofTrees_L4 fu w σ (fun l2_3 l3_4 => some l2_3) n acc i) (kont := fun a _ => some a) (f := fun i a => a + f i) ?_ ?_ T fu (nI 0) 0 (Nat.zero_add T) (by omega)).trans rfl
  · intro n acc i hi
    show Mo_ofTrees_L4 fu w σ _ (n + 1) acc (nI i) = _
    rw [Mo_ofTrees_L4, hT, if_neg (nI_ge hi (by omega)), hw i (by omega), bindV_some, nI_1]
  · intro n acc
    show Mo_ofTrees_L4 fu w σ _ (n + 1) acc (nI T) = _
    rw [Mo_ofTrees_L4, hT, if_pos (Int32.le_refl _)]
theorem count_is {t fu : Nat} (hfu : 1000 ≤ fu) {σ : Sg} (h : Inv t σ) (a : Int32) : ∃ r, Co_count fu σ a = some r ∧ Mo_howMany fu σ a = some r := by
  obtain ⟨N, T, R, ⟨n1, n2, t1, t2, n7, t3, r1, r2, -⟩, ⟨⟨d1, d2, d3, d4, d5, d6⟩, -, -⟩, ⟨⟨m, m1, m2, m3⟩, ⟨y, y1, y2, -⟩, ⟨o, o1, o2, -⟩⟩, ⟨⟨S, s1, s2, -⟩, -⟩, ⟨⟨P, p1, p2, -⟩, -⟩, ⟨p, q1, q2, -⟩, -⟩ := h
  have h7 : 2 ^ N ≤ 2 ^ 7 := Nat.pow_le_pow_right (by decide) n7
  rw [Co_count, Mo_howMany]
  by_cases h0 : a = 0
  · exact ⟨nI T, by rw [if_pos h0, Sh_trees, bindV_some, t1], by rw [if_pos h0, t2]⟩
  rw [if_neg h0, if_neg h0]
  by_cases h1 : a = 1
  · exact ⟨nI N, by rw [if_pos h1, Sh_suits, bindV_some, n1], by rw [if_pos h1, n2]⟩
  rw [if_neg h1, if_neg h1]
  by_cases h2 : a = 2
  · refine ⟨sumS (gA σ 7) T, by rw [if_pos h2, Sh_allBerries, t1, Rw_sum_is rfl t3 hfu, bindV_some, bindV_some], ?_⟩
    rw [if_pos h2, h2, show (2 : Int32) - 2 = 0 from rfl, Mo_ofTrees_is n2 n7 t2 t3 hfu (f := gA σ 7) (fun i hi => by rw [Mo_treeNow_is (T := T) n2 n7 hfu hi, if_pos rfl, d1]), bindV_some]
  rw [if_neg h2, if_neg h2]
  by_cases h3 : a = 3
  · refine ⟨sumS (gA σ 9) T, by rw [if_pos h3, Sh_allBirds, t1, Rw_sum_is rfl t3 hfu, bindV_some, bindV_some], ?_⟩
    rw [if_pos h3, h3, show (3 : Int32) - 2 = 1 from rfl, Mo_ofTrees_is n2 n7 t2 t3 hfu (f := gA σ 9) (fun i hi => by rw [Mo_treeNow_is (T := T) n2 n7 hfu hi, if_neg (by decide), if_pos rfl, d2]), bindV_some]
  rw [if_neg h3, if_neg h3]
  by_cases h4 : a = 4
  · exact ⟨sizeS (nI m), by rw [if_pos h4, Sh_righted, bindV_some, m1, bitCount_is m (by omega), bindV_some], by rw [if_pos h4, m2, Mo_size_is hfu, bindV_some]⟩
  rw [if_neg h4, if_neg h4]
  by_cases h5 : a = 5
  · exact ⟨worthS (gA σ 15) N (nI m), by rw [if_pos h5, holds5 n1 n7 hfu, bindV_some, m1], by rw [if_pos h5, Mo_worthIn_is n2 n7 hfu, bindV_some, m2, d5]⟩
  rw [if_neg h5, if_neg h5]
  by_cases h6 : a = 6
  · exact ⟨nI y, by rw [if_pos h6, Sh_years, bindV_some, y1], by rw [if_pos h6, y2]⟩
  rw [if_neg h6, if_neg h6]
  by_cases h7' : a = 7
  · exact ⟨nI o, by rw [if_pos h7', Sh_rightings, bindV_some, o1], by rw [if_pos h7', o2]⟩
  rw [if_neg h7', if_neg h7']
  by_cases h8 : a = 8
  · exact ⟨nI S, by rw [if_pos h8, Si_size, bindV_some, s1], by rw [if_pos h8, s2]⟩
  rw [if_neg h8, if_neg h8]
  by_cases h9 : a = 9
  · exact ⟨nI P, by rw [if_pos h9, Pg_size, bindV_some, p1], by rw [if_pos h9, p2]⟩
  rw [if_neg h9, if_neg h9]
  by_cases h10 : a = 10
  · exact ⟨nI R, by rw [if_pos h10, r1], by rw [if_pos h10, r2]⟩
  rw [if_neg h10, if_neg h10]
  by_cases h11 : a = 11
  · exact ⟨nI p, by rw [if_pos h11, q1], by rw [if_pos h11, q2]⟩
  rw [if_neg h11, if_neg h11]
  exact ⟨-102, rfl, rfl⟩
theorem op_count {t fu : Nat} (hfu : 1000 ≤ fu) {σ : Sg} (h : Inv t σ) (a : Int32) : opQ (Co_count fu σ a) (Mo_count fu σ a) := by
  obtain ⟨r, h1, h2⟩ := count_is hfu h a
  exact ⟨r, h1, by rw [Mo_count, h2, bindV_some]⟩
