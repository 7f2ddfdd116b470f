/-! a year on the row -/
def yrW (σ : Sg) (q n : Nat) : Sg := (σ.1, fun a b => if a = q ∧ 4 ≤ b ∧ b < 4 + n then yv (σ.2.1 q b) (σ.2.1 q (b + 3)) else σ.2.1 a b, σ.2.2)
theorem gA_yrW (σ : Sg) (q n a b : Nat) : gA (yrW σ q n) a b = if a = q ∧ 4 ≤ b ∧ b < 4 + n then yv (gA σ q b) (gA σ q (b + 3)) else gA σ a b := rfl
theorem yrW_0 (σ : Sg) (q : Nat) : yrW σ q 0 = σ := by
  refine Prod.ext rfl (Prod.ext ?_ rfl)
  funext a b
  show (if a = q ∧ 4 ≤ b ∧ b < 4 + 0 then _ else σ.2.1 a b) = σ.2.1 a b
  rw [if_neg (by omega)]
theorem yrW_succ {σ : Sg} {q i : Nat} {v : Int32} (hv : v = yv (gA σ q (4 + i)) (gA σ q (7 + i))) : sA (yrW σ q i) q (4 + i) v = yrW σ q (i + 1) := by
  subst hv
  refine Prod.ext rfl (Prod.ext ?_ rfl)
  funext a b
  show (if a = q ∧ b = 4 + i then yv (gA σ q (4 + i)) (gA σ q (7 + i)) else if a = q ∧ 4 ≤ b ∧ b < 4 + i then yv (gA σ q b) (gA σ q (b + 3)) else gA σ a b) = if a = q ∧ 4 ≤ b ∧ b < 4 + (i + 1) then yv (gA σ q b) (gA σ q (b + 3)) else gA σ a b
  by_cases h1 : a = q ∧ b = 4 + i
  · obtain ⟨rfl, rfl⟩ := h1
    rw [if_pos ⟨rfl, rfl⟩, if_pos ⟨rfl, by omega, by omega⟩, show 4 + i + 3 = 7 + i by omega]
  · rw [if_neg h1]
    by_cases h2 : a = q ∧ 4 ≤ b ∧ b < 4 + i
    · rw [if_pos h2, if_pos ⟨h2.1, h2.2.1, by omega⟩]
    · rw [if_neg h2, if_neg]
      rintro ⟨rfl, h3, h4⟩
      by_cases h5 : b = 4 + i
      · exact h1 ⟨rfl, h5⟩
      · exact h2 ⟨rfl, h3, by omega⟩
theorem La_year_is {σ : Sg} {q N T m fu : Nat} (hq : jv_ln q = 45) (h : RowA (gA σ q) N T m) (hfu : 1000 ≤ fu) : La_year fu σ q = some (yrW σ q T) := by
  obtain ⟨h0, h1, t1, t3, n2, n7, hm⟩ := h
  rw [La_year]
  have key := loop_seq (N := T) (L := fun m i s => La_year_L2 fu q (fun l1_5 s6 => some s6) m i s) (kont := fun _ s6 => some s6) (fun i => yrW σ q i) ?_ ?_ T fu 0 (Nat.zero_add T) (by omega)
  · rw [yrW_0] at key
    exact key
  · intro m i hi
    show La_year_L2 fu q _ (m + 1) (nI i) _ = La_year_L2 fu q _ m _ _
    have e0 : gA (yrW σ q i) q 0 = nI T := by rw [gA_yrW, if_neg (by omega)]; exact h0
    have e4 : gA (yrW σ q i) q (4 + i) = gA σ q (4 + i) := by rw [gA_yrW, if_neg (by omega)]
    have e7 : gA (yrW σ q i) q (7 + i) = gA σ q (7 + i) := by rw [gA_yrW, if_neg (by omega)]
    rw [La_year_L2, if_pos (in0 hq), ix0, e0, if_neg (nI_ge hi (by omega)), a4, a7, if_pos (inW hq (by omega)), if_pos (inW hq (by omega)), ixW (by omega), ixW (by omega), e4, e7, nI_1]
    have e3 := yv_le (gA σ q (4 + i)) (gA σ q (7 + i))
    by_cases hl : gA σ q (4 + i) + gA σ q (7 + i) ≤ 20
    · rw [if_pos hl] at e3
      rw [if_pos hl, if_pos (inW hq (by omega)), if_pos (inW hq (by omega)), if_pos (inW hq (by omega)), bindV_some, yrW_succ e3]
    · rw [if_neg hl] at e3
      rw [if_neg hl, if_pos (inW hq (by omega)), bindV_some, yrW_succ e3]
  · intro m
    show La_year_L2 fu q _ (m + 1) (nI T) _ = _
    have e0 : gA (yrW σ q T) q 0 = nI T := by rw [gA_yrW, if_neg (by omega)]; exact h0
    rw [La_year_L2, if_pos (in0 hq), ix0, e0, if_pos (Int32.le_refl _)]
/-! the row copied -/
theorem La_copy_is {σ : Sg} {p q fu : Nat} (hp : jv_ln p = 45) (hq : jv_ln q = 45) (hpq : p ≠ q) (hfu : 1000 ≤ fu) : La_copy fu σ p q = some (cpA σ q p 45) := by
  rw [La_copy]
  have key := loop_seq (N := 45) (L := fun m i s => La_copy_L2 fu p q (fun l2_3 s4 => some s4) m i s) (kont := fun _ s6 => some s6) (fun i => cpA σ q p i) ?_ ?_ 45 fu 0 (Nat.zero_add 45) (by omega)
  · rw [cpA_0] at key
    exact key
  · intro m i hi
    show La_copy_L2 fu p q _ (m + 1) (nI i) _ = La_copy_L2 fu p q _ m _ _
    have e4 : gA (cpA σ q p i) p i = gA σ p i := by rw [gA_cpA, if_neg (fun z => hpq z.1)]
    rw [La_copy_L2, if_neg (show ¬ (45 : Int32) ≤ nI i from nI_ge (b := 45) hi (by omega)), if_pos (inW hp hi), if_pos (inW hq hi), ixW hi, e4, bindV_some, cpA_succ rfl, nI_1]
  · intro m
    show La_copy_L2 fu p q _ (m + 1) (nI 45) _ = _
    rw [La_copy_L2, if_pos (show (45 : Int32) ≤ nI 45 from Int32.le_refl _)]
/-! one is righted on the row -/
def RtI (σ : Sg) (q k i : Nat) (l : Int32) (s : Sg) : Prop := gF s = gF σ ∧ gL s = gL σ ∧ (∀ a, a ≠ q → gA s a = gA σ a) ∧ (∀ b, (∀ j, k < j → j < i → b ≠ 14 + 5 * j) → gA s q b = gA σ q b) ∧ ∀ j, k < j → j < i → gA s q (14 + 5 * j) = if bt l j = true then 0 else gA σ q (14 + 5 * j)
theorem sA_self (σ : Sg) (k i : Nat) : sA σ k i (gA σ k i) = σ := by
  refine Prod.ext rfl (Prod.ext ?_ rfl)
  funext a b
  show (if a = k ∧ b = i then gA σ k i else σ.2.1 a b) = σ.2.1 a b
  by_cases h : a = k ∧ b = i
  · rw [if_pos h, h.1, h.2]; rfl
  · rw [if_neg h]
theorem RtI_step {σ s : Sg} {q k i : Nat} {l : Int32} {v : Int32} (hki : k < i) (h : RtI σ q k i l s) (hv : v = if bt l i = true then 0 else gA σ q (14 + 5 * i)) : RtI σ q k (i + 1) l (sA s q (14 + 5 * i) v) := by
  obtain ⟨h1, h2, h3, h4, h5⟩ := h
  refine ⟨h1, h2, fun a ha => ?_, fun b hb => ?_, fun j hj1 hj2 => ?_⟩
  · rw [← h3 a ha]
    funext b
    rw [gA_sA, if_neg (fun z => ha z.1)]
  · rw [gA_sA, if_neg (fun z => hb i hki (by omega) z.2)]
    exact h4 b (fun j h6 h7 => hb j h6 (by omega))
  · rw [gA_sA]
    by_cases e : j = i
    · subst e
      rw [if_pos ⟨rfl, rfl⟩, hv]
    · rw [if_neg (by omega)]
      exact h5 j hj1 (by omega)
def RtS (σ : Sg) (q N k t : Nat) (co : Int32) (l : Int32) (s : Sg) : Prop := gF s = gF σ ∧ gL s = gL σ ∧ (∀ a, a ≠ q → gA s a = gA σ a) ∧ gA s q (4 + t) = gA σ q (4 + t) - co ∧ gA s q (14 + 5 * k) = 1 ∧ (∀ j, k < j → j < N → gA s q (14 + 5 * j) = if bt l j = true then 0 else gA σ q (14 + 5 * j)) ∧ ∀ b, b ≠ 4 + t → (∀ j, k ≤ j → j < N → b ≠ 14 + 5 * j) → gA s q b = gA σ q b
theorem La_right_is {σ : Sg} {q N T m k t fu : Nat} (hq : jv_ln q = 45) (h : Row (gA σ q) N T m) (hk : k < N) (ht : t < T) (hfu : 1000 ≤ fu) : ∃ s, La_right fu σ q (nI k) (nI t) = some (sizeS (allS (haW (gA σ q)) N k &&& nI m), s) ∧ RtS σ q N k t (coW (gA σ q) N k) (allS (haW (gA σ q)) N k) s := by
  have h' := h
  have hg := h.hg
  obtain ⟨⟨h0, h1, t1, t3, n2, n7, hm⟩, -, hs⟩ := h'
  obtain ⟨-, ⟨n, q1, q2, q3⟩, -, -, -⟩ := hs k hk
  have e2 : gA σ q (11 + 5 * k) = nI n := q1
  have e3 : costS (kiW (gA σ q) k) (nI n) (strS (haW (gA σ q)) N k) = coW (gA σ q) N k := by rw [coW, q1]
  rw [La_right, La_under_is hq h hk hfu, bindV_some, La_righted_is hq h hfu, bindV_some, La_ones_is hfu, bindV_some, a4, if_pos (inW hq (by omega)), a11, if_pos (inW hq (by omega)), ixW (show 11 + 5 * k < 45 by omega), e2, La_costs_is hq h hfu hk (by omega), e3, bindV_some, if_pos (inW hq (by omega)), ixW (show 4 + t < 45 by omega), bindV_some, nI_1, a14]
  generalize hs5 : sA σ q (4 + t) (gA σ q (4 + t) - coW (gA σ q) N k) = s5
  generalize hl : allS (haW (gA σ q)) N k = l
  have w5 : ∀ b, b ≠ 4 + t → gA s5 q b = gA σ q b := fun b hb => by rw [← hs5, gA_sA, if_neg (fun z => hb z.2)]
  obtain ⟨s, r1, r2⟩ := loop_ex (N := N) (L := fun n (s : Sg) i => La_right_L40 fu q (nI k) (sizeS (l &&& nI m)) (fun l4_11 s12 => if inb (nI (14 + 5 * k)) (jv_ln q) = true then (bindV (some (sA s12 q (ix (nI (14 + 5 * k))) (1 : Int32))) fun s13 => some (sizeS (l &&& nI m), s13)) else none) n i s) (kont := fun s _ => if inb (nI (14 + 5 * k)) (jv_ln q) = true then (bindV (some (sA s q (ix (nI (14 + 5 * k))) (1 : Int32))) fun s13 => some (sizeS (l &&& nI m), s13)) else none) (fun i s => k < i ∧ RtI s5 q k i l s) (by
    intro n s i hi hI
    obtain ⟨hki, hI⟩ := hI
    obtain ⟨i1, i2, i3, i4, i5⟩ := hI
    have f1 : gA s q 1 = nI N := by rw [i4 1 (fun j _ _ => by omega), w5 1 (by omega), h1]
    have f13 : ∀ j, j < N → gA s q (13 + 5 * j) = haW (gA σ q) j := fun j hj => by rw [i4 _ (fun j' _ _ => by omega), w5 _ (by omega)]; rfl
    have f14 : gA s q (14 + 5 * i) = gA s5 q (14 + 5 * i) := i4 _ (fun j' _ _ => by omega)
    show ∃ acc', La_right_L40 fu q (nI k) _ _ (n + 1) (nI i) s = La_right_L40 fu q (nI k) _ _ n (nI (i + 1)) acc' ∧ _
    rw [La_right_L40, if_pos (in1 hq), ix1, f1, if_neg (nI_ge hi (by omega)), La_hangs_is hq n7 f13 hg hki hi hfu, hl, bindV_some, a14, nI_1]
    refine ⟨sA s q (14 + 5 * i) (if bt l i = true then 0 else gA s5 q (14 + 5 * i)), ?_, by omega, RtI_step hki ⟨i1, i2, i3, i4, i5⟩ rfl⟩
    cases bt l i with
    | false => rw [if_pos (by rfl), if_pos (inW hq (by omega)), if_pos (inW hq (by omega)), bindV_some, ixW (i := 14 + 5 * i) (by omega), f14]; rfl
    | true => rw [if_neg (by decide), if_pos (inW hq (by omega)), bindV_some, ixW (i := 14 + 5 * i) (by omega)]; rfl) (by
    intro n s hI
    obtain ⟨-, i1, i2, i3, i4, i5⟩ := hI
    have f1 : gA s q 1 = nI N := by rw [i4 1 (fun j _ _ => by omega), w5 1 (by omega), h1]
    show La_right_L40 fu q (nI k) _ _ (n + 1) (nI N) s = _
    rw [La_right_L40, if_pos (in1 hq), ix1, f1, if_pos (Int32.le_refl _)]) (N - (k + 1)) fu s5 (k + 1) (by omega) (by omega) ⟨by omega, rfl, rfl, fun _ _ => rfl, fun _ _ => rfl, fun j h1 h2 => by omega⟩
  obtain ⟨-, i1, i2, i3, i4, i5⟩ := r1
  refine ⟨sA s q (14 + 5 * k) 1, ?_, ?_⟩
  · refine r2.trans ?_
    rw [if_pos (inW hq (by omega)), bindV_some, ixW (by omega)]
  · have g5 : gF s5 = gF σ ∧ gL s5 = gL σ ∧ ∀ a, a ≠ q → gA s5 a = gA σ a := by
      rw [← hs5]
      refine ⟨rfl, rfl, fun a ha => ?_⟩
      funext b
      rw [gA_sA, if_neg (fun z => ha z.1)]
    refine ⟨i1.trans g5.1, i2.trans g5.2.1, fun a ha => ?_, ?_, ?_, fun j hj1 hj2 => ?_, fun b hb1 hb2 => ?_⟩
    · rw [← g5.2.2 a ha, ← i3 a ha]
      funext b
      rw [gA_sA, if_neg (fun z => ha z.1)]
    · rw [gA_sA, if_neg (by omega), i4 _ (fun j _ _ => by omega), ← hs5, gA_sA, if_pos ⟨rfl, rfl⟩]
    · rw [gA_sA, if_pos ⟨rfl, rfl⟩]
    · rw [gA_sA, if_neg (by omega), i5 j hj1 hj2, w5 _ (by omega)]
    · rw [gA_sA, if_neg (fun z => hb2 k (Nat.le_refl k) hk z.2), i4 b (fun j h6 h7 => hb2 j (by omega) h7), w5 b hb1]
