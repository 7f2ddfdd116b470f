/-! THE SHIRE READ IN: the calls -/
theorem fig_valk : ∀ k, k < 8 → ∀ m, m < 127 → fig (nI m) 0 (nI k - 1) = true → 48 ≤ m ∧ m - 48 < k := by decide +kernel
theorem fig_val0 : ∀ m, m < 127 → fig (nI m) 0 9 = true → 48 ≤ m ∧ m - 48 ≤ 9 := by decide +kernel
theorem fig_val1 : ∀ m, m < 127 → fig (nI m) 1 9 = true → 48 ≤ m ∧ m - 48 ≤ 9 := by decide +kernel
theorem kd_val : ∀ m, m < 127 → kdB (nI m) = true → (List.range 5).any (fun d => kIndex (nI m) == nI d) = true := by decide +kernel
theorem sub48 {m : Nat} (h : 48 ≤ m) : nI m - 48 = nI (m - 48) := pk_sub (b := 48) h
theorem csH_ok {pg : Nat → Int32} {P t i : Nat} (hpg : pgOK pg P) (hp : 3 * t + 5 * i + 3 < P) (hi : i < 7) (h : caseOK pg (3 * t + 5 * i) i) : csH pg t i = -1 ∨ ∃ g, g < i ∧ csH pg t i = nI g := by
  obtain ⟨-, -, -, h4⟩ := h
  by_cases q : pg (3 * t + 5 * i + 3) = 45
  · exact Or.inl (if_pos q)
  · have e : (pg (3 * t + 5 * i + 3) == 45) = false := by simpa using q
    rw [e, Bool.false_or] at h4
    obtain ⟨c, c1, c2, c3⟩ := hpg.2 _ hp
    rw [c1] at h4
    obtain ⟨v1, v2⟩ := fig_valk i (by omega) c (by omega) h4
    refine Or.inr ⟨c - 48, v2, ?_⟩
    rw [csH, if_neg q, c1, sub48 v1]
theorem readInto_is {s1 : Sg} {P t k fu : Nat} (hfu : 1000 ≤ fu) (hpg : pgOK (gA s1 3) P) (h2 : gF s1 4 2 = nI t) (h3 : gF s1 4 3 = nI k) (ht : t ≤ 3) (hk : k ≤ 7) (hP : P + 1 = 3 * t + 5 * k) (hc : ∀ j, j < k → caseOK (gA s1 3) (3 * t + 5 * j) j) : ∃ s, Rd_readInto fu s1 5 = some s ∧ Cls s1 s (gA s1 3) t t k := by
  have h46 := hpg.1
  have keep : ∀ s, mk pFc pAc s = mk pFc pAc s1 → gF s 4 2 = nI t ∧ gF s 4 3 = nI k ∧ gA s 3 = gA s1 3 := fun s v => ⟨by rw [mk_gF v (by rfl)]; exact h2, by rw [mk_gF v (by rfl)]; exact h3, mk_gA v (by rfl)⟩
  have hb : Sh_begin s1 5 = some (sF (sF (sF (sF (sF (sF s1 5 0 (0 : Int32)) 5 1 (0 : Int32)) 5 11 (0 : Int32)) 5 12 (0 : Int32)) 5 13 (0 : Int32)) 22 3 (0 : Int32)) := rfl
  rw [Rd_readInto, hb, bindV_some]
  generalize hs0 : sF (sF (sF (sF (sF (sF s1 5 0 (0 : Int32)) 5 1 (0 : Int32)) 5 11 (0 : Int32)) 5 12 (0 : Int32)) 5 13 (0 : Int32)) 22 3 (0 : Int32) = s0
  have c0 : Cls s1 s0 (gA s1 3) t 0 0 := by
    rw [← hs0]
    exact ⟨by rw [mk_sF (by rfl), mk_sF (by rfl), mk_sF (by rfl), mk_sF (by rfl), mk_sF (by rfl), mk_sF (by rfl)], ⟨rfl, rfl, rfl, rfl, rfl, rfl⟩, ⟨by rw [up_0]; rfl, by rw [up_0]; rfl⟩, ⟨by rw [up_0]; rfl, by rw [up_0]; rfl, by rw [up_0]; rfl, by rw [up_0]; rfl⟩, fun c hc => absurd hc (by omega)⟩
  obtain ⟨sT, cT, eT⟩ := loop_ex (N := t) (L := fun n (s : Sg) i => Rd_readInto_L11 fu 5 (fun l2_6 s7 => Rd_readInto_L53 fu 5 (fun l2_19 s20 => some s20) fu (0 : Int32) s7) n i s) (kont := fun s7 _ => Rd_readInto_L53 fu 5 (fun l2_19 s20 => some s20) fu (0 : Int32) s7) (fun i s => Cls s1 s (gA s1 3) t i 0) (by
    intro n s i hi h
    obtain ⟨k1, k2, k3⟩ := keep s h.1
    obtain ⟨s', e, h'⟩ := add_tree (by omega) h
    refine ⟨s', ?_, h'⟩
    show Rd_readInto_L11 fu 5 _ (n + 1) (nI i) s = _
    rw [Rd_readInto_L11, k1, if_neg (nI_ge hi (by omega)), nI_3m, Pg_digit_is (by omega), bindV_some, nI_1, Pg_digit_is (by omega), bindV_some, k3]
    show (bindV (Sh_addTree s 5 (trB (gA s1 3) i) (trD (gA s1 3) i)) fun s5 => _) = _
    rw [e, bindV_some, nI_1]) (by
    intro n s h
    obtain ⟨k1, k2, k3⟩ := keep s h.1
    show Rd_readInto_L11 fu 5 _ (n + 1) (nI t) s = _
    rw [Rd_readInto_L11, k1, if_pos (Int32.le_refl _)]) t fu s0 0 (Nat.zero_add _) (by omega) c0
  have eT' : Rd_readInto_L11 fu 5 (fun l2_6 s7 => Rd_readInto_L53 fu 5 (fun l2_19 s20 => some s20) fu (0 : Int32) s7) fu (0 : Int32) s0 = Rd_readInto_L53 fu 5 (fun l2_19 s20 => some s20) fu (0 : Int32) sT := eT
  rw [eT']
  obtain ⟨sK, cK, eK⟩ := loop_ex (N := k) (L := fun n (s : Sg) i => Rd_readInto_L53 fu 5 (fun l2_19 s20 => some s20) n i s) (kont := fun s20 _ => some s20) (fun j s => Cls s1 s (gA s1 3) t t j) (by
    intro n s j hj h
    obtain ⟨k1, k2, k3⟩ := keep s h.1
    obtain ⟨s', e, h'⟩ := add_suit hfu (by omega) (fun i hi => csH_ok hpg (by omega) (by omega) (hc i (by omega))) h
    refine ⟨s', ?_, h'⟩
    obtain ⟨c, c1, c2, c3⟩ := hpg.2 (3 * t + 5 * j) (by omega)
    have ech : ((gA s1 3 (3 * t + 5 * j)).toUInt32 % 65536).toInt32 = gA s1 3 (3 * t + 5 * j) := by rw [c1]; exact char_is c (by omega)
    show Rd_readInto_L53 fu 5 _ (n + 1) (nI j) s = _
    rw [Rd_readInto_L53, k2, if_neg (nI_ge hj (by omega)), k1, nI_3m, nI_5m, nI_add, Pg_code_is (by omega), bindV_some, nI_p3, Pg_code_is (by omega), bindV_some, nI_1, nI_p2, Pg_digit_is (by omega), Pg_digit_is (by omega), Pg_digit_is (by omega), k3, ech]
    by_cases q : gA s1 3 (3 * t + 5 * j + 3) = 45
    · have eh : csH (gA s1 3) t j = -1 := if_pos q
      rw [eh] at e
      rw [if_neg (fun z => z q), bindV_some, bindV_some]
      show (bindV (Sh_addSuit fu s 5 (csK (gA s1 3) t j) (csN (gA s1 3) t j) (csW (gA s1 3) t j) (-1)) fun s18 => _) = _
      rw [e, bindV_some, nI_1]
    · have eh : csH (gA s1 3) t j = gA s1 3 (3 * t + 5 * j + 3) - 48 := if_neg q
      rw [eh] at e
      rw [if_pos q, bindV_some, bindV_some, bindV_some]
      show (bindV (Sh_addSuit fu s 5 (csK (gA s1 3) t j) (csN (gA s1 3) t j) (csW (gA s1 3) t j) (gA s1 3 (3 * t + 5 * j + 3) - 48)) fun s15 => _) = _
      rw [e, bindV_some, nI_1]) (by
    intro n s h
    obtain ⟨k1, k2, k3⟩ := keep s h.1
    show Rd_readInto_L53 fu 5 _ (n + 1) (nI k) s = _
    rw [Rd_readInto_L53, k2, if_pos (Int32.le_refl _)]) k fu sT 0 (Nat.zero_add _) (by omega) cT
  exact ⟨sK, eK, cK⟩
def MlS (s0 s : Sg) (pg : Nat → Int32) (t i j : Nat) : Prop := gF s = gF s0 ∧ (∀ a, (a < 92 ∨ 97 < a) → gA s a = gA s0 a) ∧ (gA s 92 = up i (trB pg) (gA s0 92) ∧ gA s 93 = up i (trD pg) (gA s0 93)) ∧ (gA s 94 = up j (csK pg t) (gA s0 94) ∧ gA s 95 = up j (csN pg t) (gA s0 95) ∧ gA s 96 = up j (csW pg t) (gA s0 96) ∧ gA s 97 = up j (csH pg t) (gA s0 97))
theorem shireM_is {s0 : Sg} {P t k fu : Nat} (hfu : 1000 ≤ fu) (h46 : P ≤ 46) (h2 : gF s0 91 1 = nI t) (h3 : gF s0 91 2 = nI k) (ht : t ≤ 3) (hk : k ≤ 7) (hP : P + 1 = 3 * t + 5 * k) (K : Int32 → Sg → Option (Int32 × Sg)) : ∃ s, Mo_shire_L33 fu (fun l1_5 s6 => Mo_shire_L85 fu K fu (0 : Int32) s6) fu (0 : Int32) s0 = K (nI k) s ∧ MlS s0 s (gA s0 101) t t k := by
  generalize hpg : gA s0 101 = pg
  obtain ⟨sT, cT, eT⟩ := loop_ex (N := t) (L := fun n (s : Sg) i => Mo_shire_L33 fu (fun l1_5 s6 => Mo_shire_L85 fu K fu (0 : Int32) s6) n i s) (kont := fun s6 _ => Mo_shire_L85 fu K fu (0 : Int32) s6) (fun i s => MlS s0 s pg t i 0) (by
    rintro n s i hi ⟨f, a, ⟨a1, a2⟩, a3⟩
    have e101 : gA s 101 = pg := by rw [a 101 (by omega), hpg]
    have e1 : inb (nI (3 * i)) 46 = true := inb_nI (by omega) (by decide)
    have e2 : inb (nI (3 * i + 1)) 46 = true := inb_nI (by omega) (by decide)
    have e3 : inb (nI i) 3 = true := inb_nI (by omega) (by decide)
    have e4 : ix (nI (3 * i)) = 3 * i := ix_nI (by omega)
    have e5 : ix (nI (3 * i + 1)) = 3 * i + 1 := ix_nI (by omega)
    have e6 : ix (nI i) = i := ix_nI (by omega)
    have eN : gF s 91 1 = nI t := by rw [f]; exact h2
    refine ⟨sA (sA s 92 i (trB pg i)) 93 i (trD pg i), ?_, ?_⟩
    · show Mo_shire_L33 fu _ (n + 1) (nI i) s = _
      rw [Mo_shire_L33, eN, if_neg (nI_ge hi (by omega)), nI_3m, nI_1, nI_1, if_pos e1, if_pos e3, if_pos e2, if_pos e3, e4, e5, e6, gA_sA_other (by decide), e101]
      rfl
    · refine ⟨f, fun q hq => by rw [gA_sA_other (by omega), gA_sA_other (by omega)]; exact a q hq, ⟨?_, ?_⟩, ?_⟩
      · rw [gA_sA_other (by decide), gA_sA_same]; exact up_put i _ _ _ _ a1 rfl
      · rw [gA_sA_same, gA_sA_other (by decide)]; exact up_put i _ _ _ _ a2 rfl
      · rw [gA_sA_other (by decide), gA_sA_other (by decide), gA_sA_other (by decide), gA_sA_other (by decide), gA_sA_other (by decide), gA_sA_other (by decide), gA_sA_other (by decide), gA_sA_other (by decide)]; exact a3) (by
    rintro n s ⟨f, -⟩
    have eN : gF s 91 1 = nI t := by rw [f]; exact h2
    show Mo_shire_L33 fu _ (n + 1) (nI t) s = _
    rw [Mo_shire_L33, eN, if_pos (Int32.le_refl _)]) t fu s0 0 (Nat.zero_add _) (by omega) ⟨rfl, fun _ _ => rfl, ⟨(up_0 _ _).symm, (up_0 _ _).symm⟩, ⟨(up_0 _ _).symm, (up_0 _ _).symm, (up_0 _ _).symm, (up_0 _ _).symm⟩⟩
  have eT' : Mo_shire_L33 fu (fun l1_5 s6 => Mo_shire_L85 fu K fu (0 : Int32) s6) fu (0 : Int32) s0 = Mo_shire_L85 fu K fu (0 : Int32) sT := eT
  rw [eT']
  obtain ⟨sK, cK, eK⟩ := loop_ex (N := k) (L := fun n (s : Sg) i => Mo_shire_L85 fu K n i s) (kont := fun s i => K i s) (fun j s => MlS s0 s pg t t j) (by
    rintro n s j hj ⟨f, a, a0, ⟨a1, a2, a3, a4⟩⟩
    have e101 : gA s 101 = pg := by rw [a 101 (by omega), hpg]
    have i0 : inb (nI (3 * t + 5 * j)) 46 = true := inb_nI (by omega) (by decide)
    have i1 : inb (nI (3 * t + 5 * j + 1)) 46 = true := inb_nI (by omega) (by decide)
    have i2 : inb (nI (3 * t + 5 * j + 2)) 46 = true := inb_nI (by omega) (by decide)
    have i3 : inb (nI (3 * t + 5 * j + 3)) 46 = true := inb_nI (by omega) (by decide)
    have x0 : ix (nI (3 * t + 5 * j)) = 3 * t + 5 * j := ix_nI (by omega)
    have x1 : ix (nI (3 * t + 5 * j + 1)) = 3 * t + 5 * j + 1 := ix_nI (by omega)
    have x2 : ix (nI (3 * t + 5 * j + 2)) = 3 * t + 5 * j + 2 := ix_nI (by omega)
    have x3 : ix (nI (3 * t + 5 * j + 3)) = 3 * t + 5 * j + 3 := ix_nI (by omega)
    have j1 : inb (nI j) 7 = true := inb_nI (by omega) (by decide)
    have jx : ix (nI j) = j := ix_nI (by omega)
    have eN : gF s 91 2 = nI k := by rw [f]; exact h3
    have eT1 : gF s 91 1 = nI t := by rw [f]; exact h2
    refine ⟨sA (sA (sA (sA s 94 j (csK pg t j)) 95 j (csN pg t j)) 96 j (csW pg t j)) 97 j (csH pg t j), ?_, ?_⟩
    · show Mo_shire_L85 fu K (n + 1) (nI j) s = _
      rw [Mo_shire_L85, eN, if_neg (nI_ge hj (by omega)), eT1, nI_3m, nI_5m, nI_add]
      simp only [nI_1, nI_p2, nI_p3, i0, i1, i2, i3, x0, x1, x2, x3, j1, jx, if_true, kind_two, bindV_some, gA_sA_other (show 101 ≠ 94 by decide), gA_sA_other (show 101 ≠ 95 by decide), gA_sA_other (show 101 ≠ 96 by decide), e101]
      by_cases q : pg (3 * t + 5 * j + 3) = 45
      · have eh : csH pg t j = -1 := if_pos q
        rw [if_neg (fun z => z q), eh]
        rfl
      · have eh : csH pg t j = pg (3 * t + 5 * j + 3) - 48 := if_neg q
        rw [if_pos q, eh]
        rfl
    · refine ⟨f, fun q hq => by rw [gA_sA_other (by omega), gA_sA_other (by omega), gA_sA_other (by omega), gA_sA_other (by omega)]; exact a q hq, ?_, ⟨?_, ?_, ?_, ?_⟩⟩
      · rw [gA_sA_other (by decide), gA_sA_other (by decide), gA_sA_other (by decide), gA_sA_other (by decide), gA_sA_other (by decide), gA_sA_other (by decide), gA_sA_other (by decide), gA_sA_other (by decide)]; exact a0
      · rw [gA_sA_other (by decide), gA_sA_other (by decide), gA_sA_other (by decide), gA_sA_same]; exact up_put j _ _ _ _ a1 rfl
      · rw [gA_sA_other (by decide), gA_sA_other (by decide), gA_sA_same, gA_sA_other (by decide)]; exact up_put j _ _ _ _ a2 rfl
      · rw [gA_sA_other (by decide), gA_sA_same, gA_sA_other (by decide), gA_sA_other (by decide)]; exact up_put j _ _ _ _ a3 rfl
      · rw [gA_sA_same, gA_sA_other (by decide), gA_sA_other (by decide), gA_sA_other (by decide)]; exact up_put j _ _ _ _ a4 rfl) (by
    rintro n s ⟨f, -⟩
    have eN : gF s 91 2 = nI k := by rw [f]; exact h3
    show Mo_shire_L85 fu K (n + 1) (nI k) s = _
    rw [Mo_shire_L85, eN, if_pos (Int32.le_refl _)]) k fu sT 0 (Nat.zero_add _) (by omega) cT
  exact ⟨sK, eK, cK⟩
