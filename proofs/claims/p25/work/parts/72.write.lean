/-! THE LAW WRITES A SHIRE: its trees -/
theorem and15 (v : Int32) : ∃ c, c < 16 ∧ v &&& (15 : Int32) = nI c := by
  refine ⟨(v &&& (15 : Int32)).toBitVec.toNat, ?_, ?_⟩
  · rw [Int32.toBitVec_and, BitVec.toNat_and, show (15 : Int32).toBitVec.toNat = 2 ^ 4 - 1 from rfl, Nat.and_two_pow_sub_one_eq_mod]
    exact Nat.mod_lt _ (by decide)
  · apply Int32.toBitVec_inj.mp
    generalize v &&& (15 : Int32) = y
    show y.toBitVec = BitVec.ofNat 32 y.toBitVec.toNat
    rw [BitVec.ofNat_toNat]
    simp
theorem and7 (v : Int32) : ∃ c, c < 8 ∧ v &&& (7 : Int32) = nI c := by
  refine ⟨(v &&& (7 : Int32)).toBitVec.toNat, ?_, ?_⟩
  · rw [Int32.toBitVec_and, BitVec.toNat_and, show (7 : Int32).toBitVec.toNat = 2 ^ 3 - 1 from rfl, Nat.and_two_pow_sub_one_eq_mod]
    exact Nat.mod_lt _ (by decide)
  · apply Int32.toBitVec_inj.mp
    generalize v &&& (7 : Int32) = y
    show y.toBitVec = BitVec.ofNat 32 y.toBitVec.toNat
    rw [BitVec.ofNat_toNat]
    simp
theorem dig15 (v : Int32) {r : Nat} (h0 : 0 < r) (hr : r < 100) : ∃ b, b < r ∧ (v &&& (15 : Int32)) - (v &&& (15 : Int32)) / nI r * nI r = nI b := by
  obtain ⟨c, c1, c2⟩ := and15 v
  exact ⟨c % r, Nat.mod_lt _ h0, by rw [c2, pk_rem (by omega) h0 (by omega)]⟩
theorem dig7 (v : Int32) : ∃ b, b < 5 ∧ (v &&& (7 : Int32)) - (v &&& (7 : Int32)) / (5 : Int32) * (5 : Int32) = nI b := by
  obtain ⟨c, c1, c2⟩ := and7 v
  exact ⟨c % 5, Nat.mod_lt _ (by decide), by rw [c2]; exact pk_rem (d := 5) (by omega) (by decide) (by decide)⟩
def putS (s : Sg) (P c : Nat) : Sg := sF (sA s 3 P (nI c)) 1 1 (nI (P + 1))
theorem La_put_S {s : Sg} {P c : Nat} (hP : gF s 1 1 = nI P) (h46 : P < 46) (h1 : 32 ≤ c) (h2 : c ≤ 126) : La_put s (nI c) = some (1, putS s P c) := La_put_is hP h46 h1 h2
theorem gA_putS3 (s : Sg) (P c x : Nat) : gA (putS s P c) 3 x = if x = P then nI c else gA s 3 x := by
  show (if 3 = 3 ∧ x = P then nI c else gA s 3 x) = _
  simp only [true_and]
theorem gA_putS {s : Sg} {P c a : Nat} (ha : a ≠ 3) : gA (putS s P c) a = gA s a := by
  funext x
  show (if a = 3 ∧ x = P then nI c else gA s a x) = _
  rw [if_neg (fun z => ha z.1)]
theorem gF_putS11 (s : Sg) (P c : Nat) : gF (putS s P c) 1 1 = nI (P + 1) := rfl
theorem gF_putS09 (s : Sg) (P c : Nat) : gF (putS s P c) 0 9 = gF s 0 9 := rfl
theorem pgOK_put {s : Sg} {P c : Nat} (h : pgOK (gA s 3) P) (h46 : P < 46) (h1 : 32 ≤ c) (h2 : c ≤ 126) : pgOK (gA (putS s P c) 3) (P + 1) := by
  refine ⟨by omega, fun i hi => ?_⟩
  rw [gA_putS3]
  by_cases e : i = P
  · rw [if_pos e]
    exact ⟨c, rfl, h1, h2⟩
  · rw [if_neg e]
    exact h.2 i (by omega)
def HD (σ : Sg) (T N : Nat) (s : Sg) : Prop := gF s 0 9 = gF σ 0 9 ∧ gA s 91 0 = nI T ∧ gA s 91 1 = nI N ∧ gA s 91 2 = nI 0 ∧ gA s 91 3 = nI 0
def trF (s : Sg) (j : Nat) : Prop := (∃ b, b ≤ 9 ∧ gA s 3 (3 * j) = nI (48 + b) ∧ gA s 91 (4 + j) = nI b) ∧ ∃ d, d ≤ 9 ∧ gA s 3 (3 * j + 1) = nI (48 + d) ∧ gA s 91 (7 + j) = nI d
def TI (σ : Sg) (T N i : Nat) (s : Sg) : Prop := HD σ T N s ∧ (gF s 1 1 = nI (3 * i - 1) ∧ pgOK (gA s 3) (3 * i - 1)) ∧ (∀ j, j < i → trF s j) ∧ ∀ j, j + 1 < i → gA s 3 (3 * j + 2) = 44
theorem TI_next {σ s s' : Sg} {T N i b d : Nat} (h : TI σ T N i s) (hi : i < 3) (hb : b ≤ 9) (hd : d ≤ 9) (e1 : gF s' 0 9 = gF s 0 9) (e2 : gF s' 1 1 = nI (3 * i + 2)) (ep : pgOK (gA s' 3) (3 * i + 2)) (e3 : ∀ x, x < 3 * i - 1 → gA s' 3 x = gA s 3 x) (e4 : gA s' 3 (3 * i) = nI (48 + b)) (e5 : gA s' 3 (3 * i + 1) = nI (48 + d)) (e6 : 0 < i → gA s' 3 (3 * i - 1) = 44) (e7 : gA s' 91 (4 + i) = nI b) (e8 : gA s' 91 (7 + i) = nI d) (e9 : ∀ x, x ≠ 4 + i → x ≠ 7 + i → gA s' 91 x = gA s 91 x) : TI σ T N (i + 1) s' := by
  obtain ⟨⟨q0, q1, q2, q3, q4⟩, -, q5, q6⟩ := h
  refine ⟨⟨e1.trans q0, ?_, ?_, ?_, ?_⟩, ⟨by rw [e2, show 3 * (i + 1) - 1 = 3 * i + 2 by omega], by rw [show 3 * (i + 1) - 1 = 3 * i + 2 by omega]; exact ep⟩, fun j hj => ?_, fun j hj => ?_⟩
  · rw [e9 0 (by omega) (by omega), q1]
  · rw [e9 1 (by omega) (by omega), q2]
  · rw [e9 2 (by omega) (by omega), q3]
  · rw [e9 3 (by omega) (by omega), q4]
  · by_cases e : j = i
    · subst e
      exact ⟨⟨b, hb, e4, e7⟩, ⟨d, hd, e5, e8⟩⟩
    · obtain ⟨⟨b', b1, b2, b3⟩, ⟨d', d1, d2, d3⟩⟩ := q5 j (by omega)
      exact ⟨⟨b', b1, by rw [e3 _ (by omega), b2], by rw [e9 _ (by omega) (by omega), b3]⟩, ⟨d', d1, by rw [e3 _ (by omega), d2], by rw [e9 _ (by omega) (by omega), d3]⟩⟩
  · by_cases e : j + 1 = i
    · rw [show 3 * j + 2 = 3 * i - 1 by omega]
      exact e6 (by omega)
    · rw [e3 _ (by omega)]
      exact q6 j (by omega)
theorem TI_step {σ s : Sg} {T N i fu n : Nat} (hT3 : T ≤ 3) (hi : i < T) (h : TI σ T N i s) (l1 l2 l3 : Int32) (kont : Int32 → Int32 → Sg → Option (Int32 × Sg)) : ∃ s', La_shire_L35 fu 91 l1 l2 l3 kont (n + 1) 1 (nI i) s = La_shire_L35 fu 91 l1 l2 l3 kont n 1 (nI (i + 1)) s' ∧ TI σ T N (i + 1) s' := by
  have h' := h
  obtain ⟨⟨q0, q1, q2, q3, q4⟩, ⟨q5, q6⟩, -, -⟩ := h'
  obtain ⟨b, hb, eb⟩ := dig15 (l1 >>> (((2 : Int32) + ((4 : Int32) * nI i)) &&& 31)) (show 0 < 10 by decide) (by decide)
  obtain ⟨r, hr0, hr, er⟩ : ∃ r, 0 < r ∧ r ≤ 10 ∧ (if ¬ (l2 - l2 / (2 : Int32) * (2 : Int32)) = 0 then (some (4 : Int32)) else (some (10 : Int32))) = some (nI r) := by
    by_cases z : (l2 - l2 / (2 : Int32) * (2 : Int32)) = 0
    · exact ⟨10, by decide, by decide, by rw [if_neg (not_not_intro z)]; rfl⟩
    · exact ⟨4, by decide, by decide, by rw [if_pos z]; rfl⟩
  obtain ⟨d, hd, ed⟩ := dig15 (l1 >>> (((14 : Int32) + ((4 : Int32) * nI i)) &&& 31)) hr0 (by omega)
  have eb : ((l1 >>> (((2 : Int32) + ((4 : Int32) * nI i)) &&& 31)) &&& (15 : Int32)) - ((l1 >>> (((2 : Int32) + ((4 : Int32) * nI i)) &&& 31)) &&& (15 : Int32)) / (10 : Int32) * (10 : Int32) = nI b := eb
  have c48 : ∀ a : Nat, (48 : Int32) + nI a = nI (48 + a) := fun a => nI_add 48 a
  rw [La_shire_L35, if_pos (in0 w91), ix0, q1, if_neg (nI_ge hi (by omega)), a4, if_pos (inW w91 (by omega)), ixW (show 4 + i < 45 by omega), eb, bindV_some, er, bindV_some, if_neg (nI_ne0 hr0 (by omega)), a7, if_pos (inW w91 (by omega)), ixW (show 7 + i < 45 by omega), ed, bindV_some, if_neg (show ¬ (1 : Int32) = 0 by decide)]
  generalize hS : sA (sA s 91 (4 + i) (nI b)) 91 (7 + i) (nI d) = S
  have w : ∀ x, gA S 91 x = if x = 7 + i then nI d else if x = 4 + i then nI b else gA s 91 x := by
    intro x
    rw [← hS, gA_sA, gA_sA]
    simp only [true_and]
  have w3 : gA S 3 = gA s 3 := by rw [← hS]; rfl
  have wF : gF S = gF s := by rw [← hS]; rfl
  have v4 : gA S 91 (4 + i) = nI b := by rw [w, if_neg (by omega), if_pos rfl]
  have v7 : gA S 91 (7 + i) = nI d := by rw [w, if_pos rfl]
  have vx : ∀ x, x ≠ 4 + i → x ≠ 7 + i → gA S 91 x = gA s 91 x := fun x h1 h2 => by rw [w, if_neg h2, if_neg h1]
  by_cases h0 : i = 0
  · subst h0
    have p0 : gF S 1 1 = nI 0 := by rw [wF]; exact q5
    have g0 : pgOK (gA S 3) 0 := by rw [w3]; exact q6
    rw [if_pos (show nI 0 = 0 from rfl), if_pos (inW w91 (by omega)), v4, c48, La_put_S p0 (by omega) (by omega) (by omega), bindP_some, if_neg (by decide), if_pos (inW w91 (by omega)), gA_putS (show 91 ≠ 3 by decide), v7, c48, La_put_S (gF_putS11 _ _ _) (by omega) (by omega) (by omega), bindP_some, if_neg (by decide), nI_1]
    refine ⟨_, rfl, TI_next h (by omega) (show b ≤ 9 by omega) (show d ≤ 9 by omega) ?_ rfl (pgOK_put (pgOK_put g0 (by omega) (by omega) (by omega)) (by omega) (by omega) (by omega)) (fun x hx => by omega) ?_ ?_ (fun z => by omega) ?_ ?_ ?_⟩
    · rw [gF_putS09, gF_putS09, wF]
    · rw [gA_putS3, if_neg (by decide), gA_putS3, if_pos (by decide)]
    · rw [gA_putS3, if_pos (by decide)]
    · rw [gA_putS (by decide), gA_putS (by decide), v4]
    · rw [gA_putS (by decide), gA_putS (by decide), v7]
    · intro x h1 h2
      rw [gA_putS (by decide), gA_putS (by decide), vx x h1 h2]
  · have p0 : gF S 1 1 = nI (3 * i - 1) := by rw [wF]; exact q5
    have g0 : pgOK (gA S 3) (3 * i - 1) := by rw [w3]; exact q6
    have p1 : gF (putS S (3 * i - 1) 44) 1 1 = nI (3 * i) := by rw [gF_putS11, show 3 * i - 1 + 1 = 3 * i by omega]
    have g1 : pgOK (gA (putS S (3 * i - 1) 44) 3) (3 * i) := by
      have := pgOK_put (c := 44) g0 (by omega) (by omega) (by omega)
      rw [show 3 * i - 1 + 1 = 3 * i by omega] at this
      exact this
    rw [if_neg (show ¬ nI i = 0 from nI_ne0 (by omega) (by omega)), show (44 : Int32) = nI 44 from rfl, La_put_S p0 (by omega) (by omega) (by omega), bindP_some, if_neg (by decide), if_pos (inW w91 (by omega)), gA_putS (show 91 ≠ 3 by decide), v4, c48, La_put_S p1 (by omega) (by omega) (by omega), bindP_some, if_neg (by decide), if_pos (inW w91 (by omega)), gA_putS (show 91 ≠ 3 by decide), gA_putS (show 91 ≠ 3 by decide), v7, c48, La_put_S (gF_putS11 _ _ _) (by omega) (by omega) (by omega), bindP_some, if_neg (by decide), nI_1]
    refine ⟨_, rfl, TI_next h (by omega) (show b ≤ 9 by omega) (show d ≤ 9 by omega) ?_ rfl (pgOK_put (pgOK_put g1 (by omega) (by omega) (by omega)) (by omega) (by omega) (by omega)) (fun x hx => ?_) ?_ ?_ (fun z => ?_) ?_ ?_ ?_⟩
    · rw [gF_putS09, gF_putS09, gF_putS09, wF]
    · rw [gA_putS3, if_neg (by omega), gA_putS3, if_neg (by omega), gA_putS3, if_neg (by omega), w3]
    · rw [gA_putS3, if_neg (by omega), gA_putS3, if_pos rfl]
    · rw [gA_putS3, if_pos rfl]
    · rw [gA_putS3, if_neg (by omega), gA_putS3, if_neg (by omega), gA_putS3, if_pos rfl]
      rfl
    · rw [gA_putS (by decide), gA_putS (by decide), gA_putS (by decide), v4]
    · rw [gA_putS (by decide), gA_putS (by decide), gA_putS (by decide), v7]
    · intro x h1 h2
      rw [gA_putS (by decide), gA_putS (by decide), gA_putS (by decide), vx x h1 h2]
