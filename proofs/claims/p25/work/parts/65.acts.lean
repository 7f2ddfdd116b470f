/-! ONE RIGHTED, on both sides -/
theorem fW {W W' : Nat → Int32} (e : ∀ b, 4 ≤ b → W' b = W b) : (kiW W' = kiW W ∧ neW W' = neW W ∧ woW W' = woW W) ∧ (haW W' = haW W ∧ riW W' = riW W) ∧ beW W' = beW W ∧ biW W' = biW W :=
  ⟨⟨funext fun _ => e _ (by omega), funext fun _ => e _ (by omega), funext fun _ => e _ (by omega)⟩, ⟨funext fun _ => e _ (by omega), funext fun _ => e _ (by omega)⟩, funext fun _ => e _ (by omega), funext fun _ => e _ (by omega)⟩
theorem Row.of {W W' : Nat → Int32} {N T m : Nat} (h : Row W N T m) (e0 : W' 0 = W 0) (e1 : W' 1 = W 1) (e : ∀ b, 4 ≤ b → W' b = W b) : Row W' N T m := by
  obtain ⟨⟨f1, f2, f3⟩, ⟨f4, f5⟩, f6, f7⟩ := fW e
  obtain ⟨⟨h0, h1, h2⟩, ht, hs⟩ := h
  refine ⟨⟨e0.trans h0, e1.trans h1, h2⟩, ?_, ?_⟩
  · intro t h; rw [f6, f7]; exact ht t h
  · intro k h; rw [f1, f2, f3, f4, f5]; exact hs k h
theorem CI.of {σ : Sg} {W W' : Nat → Int32} {N T m : Nat} (h : CI σ W N T m) (e : ∀ b, 4 ≤ b → W' b = W b) : CI σ W' N T m := by
  obtain ⟨⟨f1, f2, f3⟩, ⟨f4, f5⟩, f6, f7⟩ := fW e
  unfold CI
  rw [f1, f2, f3, f4, f6, f7]
  exact h
theorem coW_of {W W' : Nat → Int32} {N k : Nat} (e : ∀ b, 4 ≤ b → W' b = W b) : coW W' N k = coW W N k := by
  obtain ⟨⟨f1, f2, f3⟩, ⟨f4, f5⟩, f6, f7⟩ := fW e
  rw [coW, coW, f1, f2, f4]
def mayW (W : Nat → Int32) (N m k t : Nat) : Bool := openS (kiW W) (haW W) (nI m) k && !decide (beW W t < coW W N k)
theorem coW_rng {W : Nat → Int32} {N T m k : Nat} (h : Row W N T m) (hk : k < N) : ∃ c, coW W N k = nI c ∧ c ≤ 18 := by
  obtain ⟨⟨h0, h1, t1, t3, n2, n7, hm⟩, -, hs⟩ := h
  obtain ⟨⟨x, x1, x2⟩, ⟨n, y1, y2, y3⟩, -⟩ := hs k hk
  obtain ⟨s, s1, s2⟩ := strS_rng (haW W) N k
  have h := costN_is x (by omega) n (by omega) s (by omega)
  exact ⟨_, by rw [coW, x1, y1, s1, h.1], h.2⟩
theorem Co_right_no {σ : Sg} {W : Nat → Int32} {N T m k t : Nat} (h : CI σ W N T m) (hr : Row W N T m) (hk : k < N) (ht : t < T) (hp : mayW W N m k t = false) : Co_right σ (nI k) (nI t) = some (-103, σ) := by
  obtain ⟨⟨h0, h1, t1, t3, n2, n7, hm⟩, -, hs⟩ := hr
  have ep := isPossible5 (σ := σ) (c := k) (t := t) (by omega) (by omega)
  rw [h.cost hk, h.opn hk, h.1.2.2, (h.2.2.2.2.1 t ht).1] at ep
  rw [mayW] at hp
  rw [hp] at ep
  rw [Co_right, hasSuit_in h.1.1 n7 hk, bindV_some, if_neg (by decide), hasTree_in h.1.2.1 t3 ht, bindV_some, if_pos (by decide), ep, bindV_some, if_neg (by decide)]
theorem may_le {W : Nat → Int32} {N T m k t : Nat} (hr : Row W N T m) (hk : k < N) (ht : t < T) (hp : mayW W N m k t = true) : ∃ b c, beW W t = nI b ∧ coW W N k = nI c ∧ c ≤ b ∧ b ≤ 20 := by
  obtain ⟨c, c1, c2⟩ := coW_rng hr hk
  obtain ⟨⟨b, b1, b2⟩, -⟩ := hr.2.1 t ht
  refine ⟨b, c, b1, c1, ?_, b2⟩
  rw [mayW, Bool.and_eq_true] at hp
  have h8 := hp.2
  rw [b1, c1] at h8
  have h9 : ¬ nI b < nI c := by simpa using h8
  rw [nI_ltI (by omega) (by omega)] at h9
  omega
theorem Co_right_yes {σ : Sg} {W : Nat → Int32} {N T m k t o : Nat} (h : CI σ W N T m) (hr : Row W N T m) (hk : k < N) (ht : t < T) (ho : gF σ 5 13 = nI o) (ho9 : o < 900) (hp : mayW W N m k t = true) : ∃ m', m' < 2 ^ N ∧ (nI m ||| bitI k) &&& (allS (haW W) N k ^^^ (-1)) = nI m' ∧ Co_right σ (nI k) (nI t) = some (sizeS (allS (haW W) N k &&& nI m), sF (sF (sA σ 7 t (beW W t - coW W N k)) 5 11 (nI m')) 5 13 (nI (o + 1))) := by
  have hsh := shakes_is h hr.1 hk
  obtain ⟨⟨h0, h1, t1, t3, n2, n7, hm⟩, -, hs⟩ := hr
  obtain ⟨m', e1, e2⟩ := right_set hm n7 hk (allS (haW W) N k)
  refine ⟨m', e2, e1, ?_⟩
  have ep := isPossible5 (σ := σ) (c := k) (t := t) (by omega) (by omega)
  rw [h.cost hk, h.opn hk, h.1.2.2, (h.2.2.2.2.1 t ht).1] at ep
  rw [mayW] at hp
  rw [hp] at ep
  have o9 : nI o < 999 := by rw [show (999 : Int32) = nI 999 from rfl, nI_ltI (by omega) (by omega)]; omega
  rw [Co_right, hasSuit_in h.1.1 n7 hk, bindV_some, if_neg (by decide), hasTree_in h.1.2.1 t3 ht, bindV_some, if_pos (by decide), ep, bindV_some, if_pos (by decide), Sh_rightings, bindV_some, ho, if_pos o9, hsh, bindV_some, pluck5 (by omega) (by omega), bindV_some, h.cost hk, (h.2.2.2.2.1 t ht).1, h.1.2.2, (h.2.2.2.2.2 k hk).2.2.2.2.2, e1, ho, nI_1]
theorem bit_right {m m' N k : Nat} {l : Int32} (e : (nI m ||| bitI k) &&& (l ^^^ (-1)) = nI m') (hk : k < 7) (j : Nat) (hj : j < 7) : m'.testBit j = ((m.testBit j || decide (k = j)) && !bt l j) := by
  rw [← b_nI m' (show j < 32 by omega), ← e, b_and, b_or, b_nI m (by omega), b_bitI (by omega) (by omega), b_xor, b_m1 j (by omega), Bool.xor_true]
/-- the row behind a righting -/
theorem Row_right {σ s : Sg} {q N T m m' k t : Nat} (hr : Row (gA σ q) N T m) (hk : k < N) (ht : t < T) (hp : mayW (gA σ q) N m k t = true) (hm' : m' < 2 ^ N) (e : (nI m ||| bitI k) &&& (allS (haW (gA σ q)) N k ^^^ (-1)) = nI m') (h : RtS σ q N k t (coW (gA σ q) N k) (allS (haW (gA σ q)) N k) s) : Row (gA s q) N T m' ∧ (∀ b, b < 4 → gA s q b = gA σ q b) ∧ (kiW (gA s q) = kiW (gA σ q) ∧ neW (gA s q) = neW (gA σ q) ∧ woW (gA s q) = woW (gA σ q) ∧ haW (gA s q) = haW (gA σ q)) ∧ (∀ i, i < T → beW (gA s q) i = if i = t then beW (gA σ q) t - coW (gA σ q) N k else beW (gA σ q) i) ∧ ∀ i, i < T → biW (gA s q) i = biW (gA σ q) i := by
  obtain ⟨b, c, b1, c1, cb, b20⟩ := may_le hr hk ht hp
  obtain ⟨⟨h0, h1, t1, t3, n2, n7, hm⟩, hT, hs⟩ := hr
  obtain ⟨-, -, -, r4, r5, r6, r7⟩ := h
  have w : ∀ x, x ≠ 4 + t → (∀ j, k ≤ j → j < N → x ≠ 14 + 5 * j) → gA s q x = gA σ q x := r7
  have fki : kiW (gA s q) = kiW (gA σ q) := funext fun i => w _ (by omega) (fun j _ _ => by omega)
  have fne : neW (gA s q) = neW (gA σ q) := funext fun i => w _ (by omega) (fun j _ _ => by omega)
  have fwo : woW (gA s q) = woW (gA σ q) := funext fun i => w _ (by omega) (fun j _ _ => by omega)
  have fha : haW (gA s q) = haW (gA σ q) := funext fun i => w _ (by omega) (fun j _ _ => by omega)
  have fbe : ∀ i, i < T → beW (gA s q) i = if i = t then beW (gA σ q) t - coW (gA σ q) N k else beW (gA σ q) i := by
    intro i hi
    by_cases e2 : i = t
    · subst e2
      rw [if_pos rfl]
      exact r4
    · rw [if_neg e2]
      exact w _ (by omega) (fun j _ _ => by omega)
  have fbi : ∀ i, i < T → biW (gA s q) i = biW (gA σ q) i := fun i hi => w _ (by omega) (fun j _ _ => by omega)
  refine ⟨⟨⟨?_, ?_, t1, t3, n2, n7, hm'⟩, ?_, ?_⟩, fun x hx => w x (by omega) (fun j _ _ => by omega), ⟨fki, fne, fwo, fha⟩, fbe, fbi⟩
  · rw [w 0 (by omega) (fun j _ _ => by omega), h0]
  · rw [w 1 (by omega) (fun j _ _ => by omega), h1]
  · intro i hi
    rw [fbe i hi, fbi i hi]
    refine ⟨?_, (hT i hi).2⟩
    by_cases e2 : i = t
    · rw [if_pos e2, b1, c1, pk_sub cb]
      exact ⟨b - c, rfl, by omega⟩
    · rw [if_neg e2]
      exact (hT i hi).1
  · intro j hj
    rw [fki, fne, fwo, fha]
    obtain ⟨g1, g2, g3, g4, g5⟩ := hs j hj
    refine ⟨g1, g2, g3, g4, ?_⟩
    rw [bit_right (N := N) e (by omega) j (by omega)]
    show gA s q (14 + 5 * j) = _
    have g5' : gA σ q (14 + 5 * j) = b2 (m.testBit j) := g5
    rcases Nat.lt_trichotomy j k with hjk | hjk | hjk
    · rw [w _ (by omega) (fun j' _ _ => by omega), g5', allS_lo n7 hk (by omega), show decide (k = j) = false by simp; omega]
      simp
    · subst hjk
      rw [r5, allS_lo n7 hk (by omega)]
      simp [b2]
    · rw [r6 j hjk hj, g5', show decide (k = j) = false by simp; omega]
      cases bt (allS (haW (gA σ q)) N k) j <;> simp [b2]
