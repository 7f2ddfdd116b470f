/-! MORE CALLS -/
theorem rng_of {f g : Nat → Int32} {n hi : Nat} (h : rng f n hi) (e : ∀ i, i < n → g i = f i) : rng g n hi := fun i hn => by
  obtain ⟨b, h1, h2⟩ := h i hn
  exact ⟨b, (e i hn).trans h1, h2⟩
theorem Co_isRead_in {σ : Sg} {R : Nat} (h : gF σ 0 9 = nI R) (hR : 0 < R) (hb : R < 2147483648) : Co_isRead σ = some 1 := by
  rw [Co_isRead, h, if_neg (nI_nle hR hb)]
theorem Co_isRead_out {σ : Sg} (h : gF σ 0 9 = nI 0) : Co_isRead σ = some 0 := by
  rw [Co_isRead, h, if_pos (by decide)]
/-- a part copied over a row that is the other's row -/
theorem fcopy {f g f' g' : Nat → Int32} {n k l : Nat} (h : f = g) (h' : ∀ i, i < n → f' i = g' i) : (fun b => if k = k ∧ b < n then f' b else f b) = fun b => if l = l ∧ b < n then g' b else g b := by
  funext b
  by_cases hb : b < n
  · rw [if_pos ⟨rfl, hb⟩, if_pos ⟨rfl, hb⟩, h' b hb]
  · rw [if_neg (fun z => hb z.2), if_neg (fun z => hb z.2), h]
theorem fsame {f f' : Nat → Int32} {n k : Nat} (h' : ∀ i, i < n → f' i = f i) : (fun b => if k = k ∧ b < n then f' b else f b) = f := by
  funext b
  by_cases hb : b < n
  · rw [if_pos ⟨rfl, hb⟩, h' b hb]
  · rw [if_neg (fun z => hb z.2)]
/-! YEARS, TREES, RIGHTINGS, COUNTS -/
def yv (x y : Int32) : Int32 := if x + y < 20 then x + y else 20
def yrA (σ : Sg) (be bi n : Nat) : Sg := (σ.1, fun a b => if a = be ∧ b < n then yv (σ.2.1 be b) (σ.2.1 bi b) else σ.2.1 a b, σ.2.2)
theorem gA_yrA (σ : Sg) (be bi n a b : Nat) : gA (yrA σ be bi n) a b = if a = be ∧ b < n then yv (gA σ be b) (gA σ bi b) else gA σ a b := rfl
theorem yrA_0 (σ : Sg) (be bi : Nat) : yrA σ be bi 0 = σ := by
  obtain ⟨f, a, l⟩ := σ
  simp [yrA]
theorem yrA_succ {σ : Sg} {be bi i : Nat} {v : Int32} (hv : v = yv (gA σ be i) (gA σ bi i)) : sA (yrA σ be bi i) be i v = yrA σ be bi (i + 1) := by
  subst hv
  refine Prod.ext rfl (Prod.ext ?_ rfl)
  funext a b
  simp only [sA, yrA, gA]
  by_cases h1 : a = be <;> by_cases h3 : b = i <;> by_cases h4 : b < i <;> simp [h1, h3, h4] <;> omega
theorem yv_le (x y : Int32) : (if x + y ≤ 20 then x + y else 20) = yv x y := by
  rw [yv]
  by_cases h : x + y < 20
  · rw [if_pos h, if_pos (Int32.le_of_lt h)]
  · by_cases h2 : x + y ≤ 20
    · rw [if_pos h2, if_neg h]
      exact Int32.le_antisymm h2 (Int32.not_lt.mp h)
    · rw [if_neg h2, if_neg h]
theorem yv_rng {f g : Nat → Int32} {n hi : Nat} (hh : hi ≤ 1000) (hf : rng f n 20) (hg : rng g n hi) : rng (fun i => yv (f i) (g i)) n 20 := by
  intro i hi
  obtain ⟨a, a1, a2⟩ := hf i hi
  obtain ⟨b, b1, b2⟩ := hg i hi
  show ∃ c, yv (f i) (g i) = nI c ∧ c ≤ 20
  rw [a1, b1, yv, nI_add, show (20 : Int32) = nI 20 from rfl]
  have e := nI_ltI (a := a + b) (b := 20) (by omega) (by omega)
  by_cases h : a + b < 20
  · exact ⟨a + b, by rw [if_pos (e.mpr h)], by omega⟩
  · exact ⟨20, by rw [if_neg (fun z => h (e.mp z))], Nat.le_refl 20⟩
theorem passYear5 {σ : Sg} {T fu : Nat} (hT : gF σ 5 0 = nI T) (hT3 : T ≤ 3) (hfu : 1000 ≤ fu) : Sh_passYear fu σ 5 = some (sF (yrA σ 7 9 T) 5 12 (gF σ 5 12 + 1)) := by
  rw [Sh_passYear]
  have h := loop_seq (N := T) (L := fun m i s => Sh_passYear_L2 fu 5 (fun l1_5 s6 => some (sF s6 5 12 ((gF s6 5 12) + (1 : Int32)))) m i s) (kont := fun _ s6 => some (sF s6 5 12 ((gF s6 5 12) + (1 : Int32)))) (fun i => yrA σ 7 9 i) ?_ ?_ T fu 0 (Nat.zero_add T) (by omega)
  · rw [yrA_0] at h
    exact h
  · intro m i hi
    show Sh_passYear_L2 fu 5 _ (m + 1) (nI i) _ = _
    have hT' : gF (yrA σ 7 9 i) 5 0 = nI T := hT
    rw [Sh_passYear_L2, hT', if_neg (nI_ge hi (by omega)), at_be5 (by omega), bindV_some, at_bi5 (by omega), bindV_some, Rw_put_in (n := 3) rfl (by omega) (by decide), bindV_some, nI_1]
    have e1 : gA (yrA σ 7 9 i) 7 i = gA σ 7 i := by rw [gA_yrA, if_neg (by omega)]
    have e2 : gA (yrA σ 7 9 i) 9 i = gA σ 9 i := by rw [gA_yrA, if_neg (by omega)]
    rw [e1, e2, show 5 + 1 + 1 = 7 from rfl, yrA_succ (by rfl)]
  · intro m
    show Sh_passYear_L2 fu 5 _ (m + 1) (nI T) _ = _
    have hT' : gF (yrA σ 7 9 T) 5 0 = nI T := hT
    rw [Sh_passYear_L2, hT', if_pos (Int32.le_refl _)]
theorem passYear67 {σ : Sg} {T fu : Nat} (hT : gF σ 67 0 = nI T) (hT3 : T ≤ 3) (hfu : 1000 ≤ fu) : Sh_passYear fu σ 67 = some (sF (yrA σ 69 71 T) 67 12 (gF σ 67 12 + 1)) := by
  rw [Sh_passYear]
  have h := loop_seq (N := T) (L := fun m i s => Sh_passYear_L2 fu 67 (fun l1_5 s6 => some (sF s6 67 12 ((gF s6 67 12) + (1 : Int32)))) m i s) (kont := fun _ s6 => some (sF s6 67 12 ((gF s6 67 12) + (1 : Int32)))) (fun i => yrA σ 69 71 i) ?_ ?_ T fu 0 (Nat.zero_add T) (by omega)
  · rw [yrA_0] at h
    exact h
  · intro m i hi
    show Sh_passYear_L2 fu 67 _ (m + 1) (nI i) _ = _
    have hT' : gF (yrA σ 69 71 i) 67 0 = nI T := hT
    rw [Sh_passYear_L2, hT', if_neg (nI_ge hi (by omega)), at_be67 (by omega), bindV_some, at_bi67 (by omega), bindV_some, Rw_put_in (n := 3) rfl (by omega) (by decide), bindV_some, nI_1]
    have e1 : gA (yrA σ 69 71 i) 69 i = gA σ 69 i := by rw [gA_yrA, if_neg (by omega)]
    have e2 : gA (yrA σ 69 71 i) 71 i = gA σ 71 i := by rw [gA_yrA, if_neg (by omega)]
    rw [e1, e2, show 67 + 1 + 1 = 69 from rfl, yrA_succ (by rfl)]
  · intro m
    show Sh_passYear_L2 fu 67 _ (m + 1) (nI T) _ = _
    have hT' : gF (yrA σ 69 71 T) 67 0 = nI T := hT
    rw [Sh_passYear_L2, hT', if_pos (Int32.le_refl _)]
theorem pluck5 {σ : Sg} {c t : Nat} (hc : c < 7) (ht : t < 3) : Sh_pluckAndRight σ 5 (nI c) (nI t) = some (sF (sF (sA σ 7 t (gA σ 7 t - costS (gA σ 11 c) (gA σ 13 c) (gA σ 19 c))) 5 11 ((gF σ 5 11 ||| bitI c) &&& (gA σ 21 c ^^^ (-1)))) 5 13 (gF σ 5 13 + 1)) := by
  rw [Sh_pluckAndRight, at_be5 ht, bindV_some, cost5 hc, bindV_some, Rw_put_in (n := 3) rfl ht (by decide), bindV_some, Sh_rightedBehind, Co_bit_is, bindV_some, at_bl5 hc, bindV_some, bindV_some]
  rfl
theorem pluck67 {σ : Sg} {c t : Nat} (hc : c < 7) (ht : t < 3) : Sh_pluckAndRight σ 67 (nI c) (nI t) = some (sF (sF (sA σ 69 t (gA σ 69 t - costS (gA σ 73 c) (gA σ 75 c) (gA σ 81 c))) 67 11 ((gF σ 67 11 ||| bitI c) &&& (gA σ 83 c ^^^ (-1)))) 67 13 (gF σ 67 13 + 1)) := by
  rw [Sh_pluckAndRight, at_be67 ht, bindV_some, cost67 hc, bindV_some, Rw_put_in (n := 3) rfl ht (by decide), bindV_some, Sh_rightedBehind, Co_bit_is, bindV_some, at_bl67 hc, bindV_some, bindV_some]
  rfl

/-! RIGHTING, COUNTING -/
def costN (k n s : Nat) : Nat := if k = 1 then (if 1 < n - s then n - s else 1) else if k = 2 then 2 * n else if k = 4 then ((if 1 < n - s then n - s else 1) + 1) / 2 else n
theorem costN_is : ∀ k, k < 5 → ∀ n, n < 10 → ∀ s, s < 8 → costS (nI k) (nI n) (nI s) = nI (costN k n s) ∧ costN k n s ≤ 18 := by decide +kernel
theorem strS_rng (ha : Nat → Int32) (N c : Nat) : ∃ s, strS ha N c = nI s ∧ s ≤ N := by
  have h := fo_inv (f := fun i a => a + (if ha i = nI c then 1 else 0)) (fun i a => ∃ s, a = nI s ∧ s ≤ i) N 0 0 ⟨0, rfl, Nat.le_refl 0⟩ ?_
  · rw [Nat.zero_add] at h
    exact h
  · rintro j a - - ⟨s, rfl, h1⟩
    show ∃ s', nI s + (if ha j = nI c then 1 else 0) = nI s' ∧ s' ≤ j + 1
    by_cases q : ha j = nI c
    · exact ⟨s + 1, by rw [if_pos q, nI_1], by omega⟩
    · exact ⟨s, by rw [if_neg q, show (0 : Int32) = nI 0 from rfl, nI_add, Nat.add_zero], by omega⟩
def sumS (f : Nat → Int32) (T : Nat) : Int32 := fo (fun i a => a + f i) T 0 0
theorem Rw_sum_is {σ : Sg} {r T fu : Nat} (hr : jv_ln (r + 1) = 3) (hT : T ≤ 3) (hfu : 1000 ≤ fu) : Rw_sum fu σ r (nI T) = some (sumS (gA σ (r + 1)) T) := by
  rw [Rw_sum, show (0 : Int32) = nI 0 from rfl]
  refine (loop_f0 (N := T) (L := fun n acc i => Rw_sum_L4 fu r (nI T) σ (fun l2_3 l3_4 => some l2_3) n acc i) (kont := fun a _ => some a) (f := fun i a => a + gA σ (r + 1) i) ?_ ?_ T fu (nI 0) 0 (Nat.zero_add T) (by omega)).trans rfl
  · intro n acc i hi
    show Rw_sum_L4 fu r (nI T) σ _ (n + 1) acc (nI i) = _
    rw [Rw_sum_L4, if_neg (nI_ge hi (by omega)), Rw_at_in hr (by omega) (by decide), bindV_some, nI_1]
  · intro n acc
    show Rw_sum_L4 fu r (nI T) σ _ (n + 1) acc (nI T) = _
    rw [Rw_sum_L4, if_pos (Int32.le_refl _)]
