/-! THE LAW'S STEPS -/
theorem and_max (x : Int32) : ∃ c, c < 2147483648 ∧ x &&& (2147483647 : Int32) = nI c := by
  refine ⟨(x &&& (2147483647 : Int32)).toBitVec.toNat, ?_, ?_⟩
  · rw [Int32.toBitVec_and, BitVec.toNat_and, show (2147483647 : Int32).toBitVec.toNat = 2 ^ 31 - 1 from rfl, Nat.and_two_pow_sub_one_eq_mod]
    exact Nat.mod_lt _ (by decide)
  · apply Int32.toBitVec_inj.mp
    generalize x &&& (2147483647 : Int32) = y
    show y.toBitVec = BitVec.ofNat 32 y.toBitVec.toNat
    rw [BitVec.ofNat_toNat]
    simp
theorem La_cell_is (xs : Nat → Int32) {L : Nat} (a : Nat) (hL : L ≤ 260) (ha : a < 1000) : ∃ c, c < 2147483648 ∧ La_cell xs L (nI a) = some (nI c) := by
  rw [La_cell, show Int32.ofNat L = nI L from rfl]
  by_cases h : L ≤ a
  · rw [if_pos ((nI_leI (by omega) (by omega)).mpr h)]
    obtain ⟨c, c1, c2⟩ := and_max ((7919 : Int32) * nI a + 13)
    exact ⟨c, c1, by rw [c2]⟩
  · rw [if_neg (fun z => h ((nI_leI (by omega) (by omega)).mp z)), if_pos (inb_nI (by omega) (by omega))]
    obtain ⟨c, c1, c2⟩ := and_max (xs (ix (nI a)))
    exact ⟨c, c1, by rw [c2]⟩
theorem law172 {σ : Sg} {N T m fu k ti : Nat} (hfu : 1000 ≤ fu) (hc : CI σ (gA σ 91) N T m) (hr : Row (gA σ 91) N T m) (hk : k < 2147483648) (hti : ti ≤ 60) (xs : Nat → Int32) (L : Nat) (l4 l5 l6 l9 : Int32) (kont : Int64 → Int32 → Int32 → Sg → Option (Int32 × Sg)) : ∀ d i n s, i + d = ti → d < n → VI σ N T (itA σ N T k i) s → ∃ s', VI σ N T (itA σ N T k ti) s' ∧ La_law_L172 fu xs L l4 l5 l6 (nI ti) l9 kont n (nL (itA σ N T k i).sd) (itA σ N T k i).cn (nI i) s = kont (nL (itA σ N T k ti).sd) (itA σ N T k ti).cn (nI ti) s' := by
  intro d
  induction d with
  | zero =>
    intro i n s hi hn hv
    obtain ⟨n, rfl⟩ : ∃ j, n = j + 1 := ⟨n - 1, by omega⟩
    have e : i = ti := by omega
    subst e
    exact ⟨s, hv, by rw [La_law_L172, if_pos (Int32.le_refl _)]⟩
  | succ d ih =>
    intro i n s hi hn hv
    obtain ⟨n, rfl⟩ : ∃ j, n = j + 1 := ⟨n - 1, by omega⟩
    obtain ⟨s1, e1, v1⟩ := VI_step hfu hc hr (itA_sd hk i) hv xs L l4 l5 l6 (nI ti) l9 kont n i (nI_ge (by omega) (by omega))
    have e : stA σ N T (itA σ N T k i) = itA σ N T k (i + 1) := by rw [itA]
    rw [e] at e1 v1
    obtain ⟨s', w1, w2⟩ := ih (i + 1) n s1 (by omega) (by omega) v1
    exact ⟨s', w1, e1.trans w2⟩
theorem VI_copy {σ : Sg} {N T m k : Nat} (hc : CI σ (gA σ 91) N T m) (hr : Row (gA σ 91) N T m) : VI σ N T (itA σ N T k 0) (cpA σ 92 91 45) := by
  have hr' := hr
  obtain ⟨⟨h0, h1, t1, t3, n2, n7, hm⟩, hT, hS⟩ := hr'
  have w : ∀ b, b < 45 → gA (cpA σ 92 91 45) 92 b = gA σ 91 b := fun b hb => by rw [gA_cpA, if_pos ⟨rfl, hb⟩]
  refine ⟨⟨rfl, rfl, fun x hx => ?_⟩, ⟨m, ⟨⟨?_, ?_, t1, t3, n2, n7, hm⟩, ?_, ?_⟩, ?_⟩, ?_, ?_⟩
  · funext b
    rw [gA_cpA, if_neg (fun z => hx z.1)]
  · rw [w 0 (by omega), h0]
  · rw [w 1 (by omega), h1]
  · intro i hi
    have e1 : beW (gA (cpA σ 92 91 45) 92) i = beW (gA σ 91) i := w _ (by omega)
    have e2 : biW (gA (cpA σ 92 91 45) 92) i = biW (gA σ 91) i := w _ (by omega)
    rw [e1, e2]
    exact hT i hi
  · intro i hi
    have e1 : kiW (gA (cpA σ 92 91 45) 92) i = kiW (gA σ 91) i := w _ (by omega)
    have e2 : neW (gA (cpA σ 92 91 45) 92) i = neW (gA σ 91) i := w _ (by omega)
    have e3 : woW (gA (cpA σ 92 91 45) 92) i = woW (gA σ 91) i := w _ (by omega)
    have e4 : haW (gA (cpA σ 92 91 45) 92) i = haW (gA σ 91) i := w _ (by omega)
    have e5 : riW (gA (cpA σ 92 91 45) 92) i = riW (gA σ 91) i := w _ (by omega)
    rw [e1, e2, e3, e4, e5]
    exact hS i hi
  · rw [itA, r_of]
    exact hc.1.2.2
  · intro i hi
    exact ⟨w _ (by omega), w _ (by omega), w _ (by omega), w _ (by omega)⟩
  · intro i hi
    refine ⟨?_, w _ (by omega)⟩
    rw [itA, be_of, (hc.2.2.2.2.1 i hi).1]
    exact w _ (by omega)
theorem sd32 {s : Nat} (h : s < 2147483648) : (nL s).toInt32 = nI s := by
  apply Int32.toInt_inj.mp
  rw [Int64.toInt_toInt32, nL_toInt (by omega), nI_toInt h]
  rw [Int.bmod_def]
  split <;> omega
theorem lg_same (x : Int64) : lg_cmp x x = 0 := by
  rw [lg_cmp]
  simp
theorem law77 {B t : Nat} {σ : Sg} {N T m fu L p i n : Nat} {xs : Nat → Int32} (hL : L ≤ 260) (h : Jt B t σ N T m) (ht : t ≤ 700) (hfu : 1000 ≤ fu) (hp : p ≤ 100) (hi : i < 22) (l4 : Int32) (kont : Int32 → Sg → Option (Int32 × Sg)) : ∃ s m', La_law_L77 fu xs L l4 (nI p) kont (n + 1) (nI i) σ = La_law_L77 fu xs L l4 (nI p) kont n (nI (i + 1)) s ∧ Jt B (t + 1) s N T m' := by
  obtain ⟨X, hX, ex⟩ := La_cell_is xs (p + 3 + i) hL (by omega)
  obtain ⟨s1, m1, ea, hj⟩ := La_act_is h (by omega) hfu hX
  have hj' := hj
  obtain ⟨hc1, hr1, ⟨y, y1, y2, -⟩, ⟨o, o1, o2, -⟩, -⟩ := hj'
  have hto := La_told_is w91 hc1 hr1 (y1.trans y2.symm) (o1.trans o2.symm) hfu
  have a3 : nI p + 3 + nI i = nI (p + 3 + i) := by rw [nI_p3, nI_add]
  rw [La_law_L77, if_neg (show ¬ (22 : Int32) ≤ nI i from nI_ge (b := 22) hi (by omega)), a3, ex, bindV_some, ea, bindP_some, if_neg (by decide), hto, bindV_some, if_pos (by decide), nI_1]
  have em : nI i - nI i / (6 : Int32) * (6 : Int32) = nI (i % 6) := pk_rem (d := 6) (by omega) (by decide) (by decide)
  have ed : nI i / (6 : Int32) = nI (i / 6) := pk_div (d := 6) (by omega) (by decide) (by decide)
  rw [em, ed]
  by_cases h5 : i % 6 = 5
  · rw [if_neg (not_not_intro (show nI (i % 6) = (5 : Int32) by rw [h5]; rfl))]
    have d512 : X / 512 < 2147483648 := Nat.lt_of_le_of_lt (Nat.div_le_self _ _) hX
    have e4 : nI X / (512 : Int32) = nI (X / 512) := pk_div (d := 512) hX (by decide) (by decide)
    have hlt := Nat.mod_lt (X / 512) (show 60 > 0 by decide)
    have f1 : (1 : Int32) + (nI (X / 512) - nI (X / 512) / (60 : Int32) * (60 : Int32)) = nI (1 + X / 512 % 60) := by
      rw [show nI (X / 512) - nI (X / 512) / (60 : Int32) * (60 : Int32) = nI (X / 512 % 60) from pk_rem (d := 60) d512 (by decide) (by decide)]
      exact nI_add 1 _
    obtain ⟨k, hk, ek⟩ := La_cell_is xs (p + 24 + i / 6) hL (by omega)
    have a24 : nI p + 24 + nI (i / 6) = nI (p + 24 + i / 6) := by rw [show nI p + (24 : Int32) = nI (p + 24) from nI_add p 24, nI_add]
    rw [e4, f1, bindV_some, a24, ek, bindV_some, La_copy_is w91 w92 (by decide) hfu, bindV_some, toL hk]
    generalize hti : 1 + X / 512 % 60 = ti
    have hti1 : 1 ≤ ti := by omega
    have hti60 : ti ≤ 60 := by omega
    have hv0 := VI_copy (k := k) hc1 hr1
    obtain ⟨s2, v2, e2⟩ := law172 (fu := fu) hfu hc1 hr1 hk hti60 xs L l4 (nI p) (nI i) (nI k) (fun l10_32 l12_33 l13_34 s35 => bindP (Co_centuries fu s35 (nI ti) (nI k) (0 : Int32)) fun r36 s37 => if ¬ r36 = l12_33 then (some ((0 : Int32), s37)) else (bindP (Co_centuries fu s37 (nI ti) (nI k) (1 : Int32)) fun r39 s40 => bindV (La_righted fu s40 92) fun r41 => bindV (La_worth fu s40 92 r41) fun r42 => if ¬ r39 = r42 then (some ((0 : Int32), s40)) else (bindP (Co_centuries fu s40 (nI ti) (nI k) (2 : Int32)) fun r44 s45 => if (lg_cmp r44.toInt64 l10_32) = 0 then (La_law_L77 fu xs L l4 (nI p) kont n (nI (i + 1)) s45) else (some ((0 : Int32), s45))))) ti 0 fu (cpA s1 92 91 45) (Nat.zero_add _) (by omega) hv0
    have ez : itA s1 N T k 0 = CA.of (gA s1 7) (gF s1 5 11) k 0 := by rw [itA]
    rw [ez, sd_of, cn_of] at e2
    refine Exists.imp (fun s => Exists.imp (fun m' => And.imp_left (fun e => e2.trans e))) ?_
    obtain ⟨⟨v3, v4, v5⟩, ⟨mf, hrf, hmf⟩, ff, fb⟩ := v2
    have hc2 : CI s2 (gA s1 91) N T m1 := hc1.of92 v3 v5
    have it2 : itA s2 N T k ti = itA s1 N T k ti := itA_cong (by rw [v3]) (fun a ha => v5 a (by omega)) ti
    obtain ⟨s3, u3, c30, -, -⟩ := Co_cent_is hc2 hr1.1 hti1 hti60 hk hfu
    have hc3 : CI s3 (gA s1 91) N T m1 := hc2.of_vw u3
    obtain ⟨s4, u4, -, c41, -⟩ := Co_cent_is hc3 hr1.1 hti1 hti60 hk hfu
    have hc4 : CI s4 (gA s1 91) N T m1 := hc3.of_vw u4
    obtain ⟨s5, u5, -, -, c52⟩ := Co_cent_is hc4 hr1.1 hti1 hti60 hk hfu
    have it3 : itA s3 N T k ti = itA s1 N T k ti := (itA_vw u3 ti).trans it2
    have it4 : itA s4 N T k ti = itA s1 N T k ti := (itA_vw u4 ti).trans it3
    rw [it2] at c30
    rw [it3] at c41
    rw [it4, sd32 (itA_sd hk ti)] at c52
    have g92 : gA s4 92 = gA s2 92 := (vw_gA u4 rfl).trans (vw_gA u3 rfl)
    have hrf4 : Row (gA s4 92) N T mf := by rw [g92]; exact hrf
    have ew : worthS (woW (gA s4 92)) N (nI mf) = worthS (woW (gA s1 91)) N (itA s1 N T k ti).r := by
      rw [hmf, g92]
      exact fo_cong N 0 0 (fun j b _ h2 => by rw [(ff j (by omega)).2.2.1])
    rw [c30, bindP_some, if_neg (fun z => z rfl), c41, bindP_some, La_righted_is w92 hrf4 hfu, bindV_some, La_worth_is w92 hrf4.1 hfu, bindV_some, if_neg (fun z => z ew.symm), c52, bindP_some, toL (itA_sd hk ti), lg_same, if_pos rfl]
    exact ⟨s5, m1, rfl, (hj.of92 v3 v5).of_vw (u5.trans (u4.trans u3))⟩
  · rw [if_pos (show ¬ nI (i % 6) = (5 : Int32) from fun z => h5 ((nI_eq (b := 5) (by omega) (by omega)).mp z))]
    exact ⟨s1, m1, rfl, hj⟩
/-! the calls that are refused -/
theorem nI_z : (0 : Int32) = nI 0 := rfl
theorem refused_are {B t : Nat} {σ : Sg} {N T m fu : Nat} (h : Jt B t σ N T m) :
    (Co_tree fu σ (nI T) 0 = some (-101) ∧ Co_tree fu σ 0 3 = some (-102) ∧ Co_tree fu σ (-1) 0 = some (-101) ∧ Co_suit fu σ (nI N) 0 = some (-101) ∧ Co_suit fu σ 0 10 = some (-102) ∧ Co_as σ (nI N) 0 = some (-101) ∧ Co_as σ 0 5 = some (-102)) ∧
    (Co_right σ (nI N) 0 = some (-101, σ) ∧ Co_right σ 0 (nI T) = some (-101, σ) ∧ Co_birds σ (nI T) 0 = some (-101, σ) ∧ Co_birds σ 0 10 = some (-102, σ) ∧ Co_birds σ 0 (-1) = some (-102, σ) ∧ Co_plead σ (nI N) 1 1 = some (-101, σ) ∧ Co_plead σ 0 0 1 = some (-102, σ) ∧ Co_plead σ 0 1 10 = some (-102, σ) ∧ Co_walk fu σ (nI N) = some (-101, σ)) ∧
    Co_centuries fu σ 0 1 0 = some (-102, σ) ∧ Co_centuries fu σ 61 1 0 = some (-102, σ) ∧ Co_centuries fu σ 1 (-1) 0 = some (-102, σ) ∧ Co_centuries fu σ 1 1 3 = some (-102, σ) := by
  obtain ⟨hc, ⟨⟨h0, h1, t1, t3, n2, n7, hm⟩, -, -⟩, -, -⟩ := h
  have eS : Sh_hasSuit σ 5 0 = some 1 := hasSuit_in (c := 0) hc.1.1 n7 (by omega)
  have eT : Sh_hasTree σ 5 0 = some 1 := hasTree_in (c := 0) hc.1.2.1 t3 (by omega)
  have oS := hasSuit_out hc.1.1
  have oT := hasTree_out hc.1.2.1
  have mT := hasTree_m1 σ
  refine ⟨⟨?_, ?_, ?_, ?_, ?_, ?_, ?_⟩, ⟨?_, ?_, ?_, ?_, ?_, ?_, ?_, ?_, ?_⟩, ?_, ?_, ?_, ?_⟩
  · rw [Co_tree, oT]; rfl
  · rw [Co_tree, eT]; rfl
  · rw [Co_tree, mT]; rfl
  · rw [Co_suit, oS]; rfl
  · rw [Co_suit, eS]; rfl
  · rw [Co_as, oS]; rfl
  · rw [Co_as, eS]; rfl
  · rw [Co_right, oS]; rfl
  · rw [Co_right, eS, bindV_some, if_neg (by decide), oT]; rfl
  · rw [Co_birds, oT]; rfl
  · rw [Co_birds, eT]; rfl
  · rw [Co_birds, eT]; rfl
  · rw [Co_plead, oS]; rfl
  · rw [Co_plead, eS]; rfl
  · rw [Co_plead, eS]; rfl
  · rw [Co_walk, oS]; rfl
  · rw [Co_centuries]; rfl
  · rw [Co_centuries]; rfl
  · rw [Co_centuries]; rfl
  · rw [Co_centuries]; rfl
