/-! THE ODDS IN THE MODEL -/
theorem nI20 {i : Nat} (h : i < 21) : ¬ 20 < nI i := by
  rw [show (20 : Int32) = nI 20 from rfl, nI_ltI (by omega) (by omega)]; omega
theorem gA_sA_other {σ : Sg} {k i a : Nat} {v : Int32} (h : a ≠ k) : gA (sA σ k i v) a = gA σ a := by
  funext j
  show (if a = k ∧ j = i then v else gA σ a j) = gA σ a j
  rw [if_neg (fun z => h z.1)]
theorem gA_sA_same (σ : Sg) (k i : Nat) (v : Int32) : gA (sA σ k i v) k = fun j => if j = i then v else gA σ k j := by
  funext j
  show (if k = k ∧ j = i then v else gA σ k j) = _
  by_cases q : j = i <;> simp [q]
/-- one year of ways: the row after, dotted with f, is the row before, dotted with f after a year -/
def yrF (d : Nat) (f : Nat → Int32) (b : Nat) : Int32 := fo (fun i a => a + f (cap (b + i))) (d + 1) 0 0
theorem odds_year {σ : Sg} {fu u d : Nat} (hfu : 1000 ≤ fu) (hu : u < 3) (hd : gA σ 93 u = nI d) (hd9 : d ≤ 9) (l1 l3 l4 l5 l6 : Int32) (kont : Int32 → Sg → Option (Int32 × Sg)) :
    ∃ s, vw s = vw σ ∧ gL s = gL σ ∧ (∀ f, dotN (gA s 106) f 21 = dotN (gA σ 106) (yrF d f) 21) ∧ Mo_oddsNow_L54 fu l1 (nI u) l3 l4 l5 l6 (fun l7_7 s8 => Mo_oddsNow_L78 fu l1 (nI u) l3 l4 l5 l6 (fun l7_14 s15 => Mo_oddsNow_L149 fu l1 (nI u) l3 l4 l5 l6 kont fu (0 : Int32) s15) fu (0 : Int32) s8) fu (0 : Int32) σ = kont (nI 21) s := by
  have hu1 : inb (nI u) 3 = true := inb_nI hu (by decide)
  have hu2 : ix (nI u) = u := ix_nI (by omega)
  obtain ⟨s1, ⟨v1, g1, w1, z1⟩, e1⟩ := loop_ex (N := 21) (L := fun n (s : Sg) i => Mo_oddsNow_L54 fu l1 (nI u) l3 l4 l5 l6 (fun l7_7 s8 => Mo_oddsNow_L78 fu l1 (nI u) l3 l4 l5 l6 (fun l7_14 s15 => Mo_oddsNow_L149 fu l1 (nI u) l3 l4 l5 l6 kont fu (0 : Int32) s15) fu (0 : Int32) s8) n i s) (kont := fun s8 _ => Mo_oddsNow_L78 fu l1 (nI u) l3 l4 l5 l6 (fun l7_14 s15 => Mo_oddsNow_L149 fu l1 (nI u) l3 l4 l5 l6 kont fu (0 : Int32) s15) fu (0 : Int32) s8) (fun i s => vw s = vw σ ∧ gL s = gL σ ∧ gA s 106 = gA σ 106 ∧ ∀ j, j < i → gA s 107 j = 0) (by
    rintro n s i hi ⟨v, g, w, z⟩
    refine ⟨sA s 107 i 0, ?_, by rw [vw_sA (by rfl)]; exact v, g, by rw [gA_sA_other (by decide)]; exact w, ?_⟩
    · show Mo_oddsNow_L54 fu l1 (nI u) l3 l4 l5 l6 _ (n + 1) (nI i) s = _
      rw [Mo_oddsNow_L54, if_neg (nI20 hi), if_pos (inb_nI hi (by decide)), ix_nI (by omega), nI_1]
    · intro j hj
      rw [gA_sA_same]
      by_cases q : j = i
      · simp [q]
      · simp [q, z j (by omega)]) (by
    rintro n s -
    show Mo_oddsNow_L54 fu l1 (nI u) l3 l4 l5 l6 _ (n + 1) (nI 21) s = _
    rw [Mo_oddsNow_L54, if_pos (by decide)]) 21 fu σ 0 rfl (by omega) ⟨rfl, rfl, rfl, fun j hj => absurd hj (by omega)⟩
  obtain ⟨s2, ⟨v2, g2, w2, z2⟩, e2⟩ := loop_ex (N := 21) (L := fun n (s : Sg) i => Mo_oddsNow_L78 fu l1 (nI u) l3 l4 l5 l6 (fun l7_14 s15 => Mo_oddsNow_L149 fu l1 (nI u) l3 l4 l5 l6 kont fu (0 : Int32) s15) n i s) (kont := fun s15 _ => Mo_oddsNow_L149 fu l1 (nI u) l3 l4 l5 l6 kont fu (0 : Int32) s15) (fun i s => vw s = vw σ ∧ gL s = gL σ ∧ gA s 106 = gA σ 106 ∧ ∀ f, dotN (gA s 107) f 21 = dotN (gA σ 106) (yrF d f) i) (by
    rintro n s b hb ⟨v, g, w, z⟩
    obtain ⟨s', ⟨v', g', w', z'⟩, e'⟩ := loop_ex (N := d + 1) (L := fun n' (s : Sg) i => Mo_oddsNow_L88 fu l1 (nI u) l3 l4 l5 l6 (nI b) (fun l8_12 s13 => Mo_oddsNow_L78 fu l1 (nI u) l3 l4 l5 l6 (fun l7_14 s15 => Mo_oddsNow_L149 fu l1 (nI u) l3 l4 l5 l6 kont fu (0 : Int32) s15) n (nI b + (1 : Int32)) s13) n' i s) (kont := fun s13 _ => Mo_oddsNow_L78 fu l1 (nI u) l3 l4 l5 l6 (fun l7_14 s15 => Mo_oddsNow_L149 fu l1 (nI u) l3 l4 l5 l6 kont fu (0 : Int32) s15) n (nI b + (1 : Int32)) s13) (fun i s' => vw s' = vw σ ∧ gL s' = gL σ ∧ gA s' 106 = gA σ 106 ∧ ∀ f, dotN (gA s' 107) f 21 = dotN (gA σ 106) (yrF d f) b + gA σ 106 b * fo (fun i a => a + f (cap (b + i))) i 0 0) (by
      rintro n' s i hi ⟨v, g, w, z⟩
      have hcap : cap (b + i) < 21 := by have := cap_le (b + i); omega
      refine ⟨sA s 107 (cap (b + i)) (gA s 107 (cap (b + i)) + gA s 106 b), ?_, by rw [vw_sA (by rfl)]; exact v, g, by rw [gA_sA_other (by decide)]; exact w, ?_⟩
      · show Mo_oddsNow_L88 fu l1 (nI u) l3 l4 l5 l6 (nI b) _ (n' + 1) (nI i) s = _
        have hd' : gA s 93 u = nI d := by rw [vw_gA v (by rfl)]; exact hd
        have hlt : ¬ nI d < nI i := fun z => by have := (nI_ltI (by omega) (by omega)).mp z; omega
        have hb1 : inb (nI b) 21 = true := inb_nI hb (by decide)
        have hb2 : ix (nI b) = b := ix_nI (by omega)
        rw [Mo_oddsNow_L88, if_pos hu1, hu2, hd', if_neg hlt, nI_add, nI_1, nI_1]
        by_cases q : b + i ≤ 20
        · have ec : cap (b + i) = b + i := by rw [cap]; split <;> omega
          rw [if_pos (show nI (b + i) ≤ 20 from (nI_leI (b := 20) (by omega) (by omega)).mpr q), if_pos (inb_nI (by omega) (by decide)), if_pos hb1, if_pos (inb_nI (by omega) (by decide)), hb2, ix_nI (by omega), ec]
        · have ec : cap (b + i) = 20 := by rw [cap]; split <;> omega
          rw [if_neg (show ¬ nI (b + i) ≤ 20 from fun z => q ((nI_leI (b := 20) (by omega) (by omega)).mp z)), if_pos (by decide), if_pos hb1, if_pos (by decide), hb2, show ix (20 : Int32) = 20 from rfl, ec]
      · intro f
        rw [gA_sA_same]
        have e : (fun j => if j = cap (b + i) then gA s 107 (cap (b + i)) + gA s 106 b else gA s 107 j) = fun j => if j = cap (b + i) then gA s 107 j + gA s 106 b else gA s 107 j := by
          funext j
          by_cases q : j = cap (b + i)
          · rw [if_pos q, if_pos q, q]
          · rw [if_neg q, if_neg q]
        rw [e, dotN_up, z f, if_pos hcap, fo_succ, Nat.zero_add, Int32.mul_add, Int32.add_assoc, w]) (by
      rintro n' s ⟨v, g, w, z⟩
      show Mo_oddsNow_L88 fu l1 (nI u) l3 l4 l5 l6 (nI b) _ (n' + 1) (nI (d + 1)) s = _
      have hd' : gA s 93 u = nI d := by rw [vw_gA v (by rfl)]; exact hd
      rw [Mo_oddsNow_L88, if_pos hu1, hu2, hd', if_pos ((nI_ltI (by omega) (by omega)).mpr (by omega))]) (d + 1) fu s 0 (Nat.zero_add _) (by omega) ⟨v, g, w, fun f => by rw [z f, fo, Int32.mul_zero, Int32.add_zero]⟩
    refine ⟨s', ?_, v', g', w', fun f => by rw [z' f, dotN_succ]; rfl⟩
    show Mo_oddsNow_L78 fu l1 (nI u) l3 l4 l5 l6 _ (n + 1) (nI b) s = _
    rw [Mo_oddsNow_L78, if_neg (nI20 hb)]
    refine e'.trans ?_
    rw [nI_1]) (by
    rintro n s -
    show Mo_oddsNow_L78 fu l1 (nI u) l3 l4 l5 l6 _ (n + 1) (nI 21) s = _
    rw [Mo_oddsNow_L78, if_pos (by decide)]) 21 fu s1 0 rfl (by omega) ⟨v1, g1, w1, fun f => dotN_0 f 21 z1⟩
  obtain ⟨s3, ⟨v3, g3, w3, z3⟩, e3⟩ := loop_ex (N := 21) (L := fun n (s : Sg) i => Mo_oddsNow_L149 fu l1 (nI u) l3 l4 l5 l6 kont n i s) (kont := fun s i => kont i s) (fun i s => vw s = vw σ ∧ gL s = gL σ ∧ gA s 107 = gA s2 107 ∧ ∀ j, j < i → gA s 106 j = gA s2 107 j) (by
    rintro n s i hi ⟨v, g, w, z⟩
    refine ⟨sA s 106 i (gA s 107 i), ?_, by rw [vw_sA (by rfl)]; exact v, g, by rw [gA_sA_other (by decide)]; exact w, ?_⟩
    · show Mo_oddsNow_L149 fu l1 (nI u) l3 l4 l5 l6 _ (n + 1) (nI i) s = _
      rw [Mo_oddsNow_L149, if_neg (nI20 hi), if_pos (inb_nI hi (by decide)), if_pos (inb_nI hi (by decide)), ix_nI (by omega), nI_1]
    · intro j hj
      rw [gA_sA_same]
      by_cases q : j = i
      · simp [q, w]
      · simp [q, z j (by omega)]) (by
    rintro n s -
    show Mo_oddsNow_L149 fu l1 (nI u) l3 l4 l5 l6 _ (n + 1) (nI 21) s = _
    rw [Mo_oddsNow_L149, if_pos (by decide)]) 21 fu s2 0 rfl (by omega) ⟨v2, g2, rfl, fun j hj => absurd hj (by omega)⟩
  refine ⟨s3, v3, g3, fun f => ?_, e1.trans (e2.trans e3)⟩
  rw [dotN_cong 21 z3 (fun _ _ => rfl), z2 f]
theorem Mo_oddsNow_is {σ : Sg} {fu N c u d y be q : Nat} (hfu : 2000 ≤ fu) (hN : gF σ 91 2 = nI N) (hN7 : N ≤ 7) (hc : c < 7) (hu : u < 3) (hy : y ≤ 3) (hd : gA σ 93 u = nI d) (hd9 : d ≤ 9) (hbe : gA σ 92 u = nI be) (hbe2 : be ≤ 20) (hq : costS (gA σ 94 c) (gA σ 95 c) (strS (gA σ 97) N c) = nI q) (hq2 : q ≤ 18) {g : Nat} (hg : gwI (nI q) d y be = nI g) (hg2 : g ≤ (d + 1) ^ y) (hpw : (d + 1) ^ y ≤ 1000) (w : Int32) :
    ∃ s, Mo_oddsNow fu σ (nI c) (nI u) (nI y) w = some (if w = 0 then nI (g / Nat.gcd g ((d + 1) ^ y)) else nI ((d + 1) ^ y / Nat.gcd g ((d + 1) ^ y)), s) ∧ vw s = vw σ ∧ gL s = gL σ := by
  have hu1 : inb (nI u) 3 = true := inb_nI hu (by decide)
  have hu2 : ix (nI u) = u := ix_nI (by omega)
  rw [Mo_oddsNow]
  generalize hK1 : (fun (l5_3 : Int32) (s4 : Sg) => Mo_oddsNow_L45 fu (nI c) (nI u) (nI y) w (fun l5_19 l6_20 s21 => bindV (Mo_cost fu s21 (nI c)) fun r22 => Mo_oddsNow_L205 fu w l5_19 s21 (fun l6_24 l7_25 => bindV (Mo_divisor fu l6_24 l5_19) fun r26 => if ¬ w = 0 then (if r26 = 0 then none else (some (l5_19 / r26, s21))) else (if r26 = 0 then none else (some (l6_24 / r26, s21)))) fu (0 : Int32) r22) fu (1 : Int32) (0 : Int32) s4) = K1
  obtain ⟨s1, ⟨v1, g1, w1⟩, e1⟩ := loop_ex (N := 21) (L := fun n (s : Sg) i => Mo_oddsNow_L3 fu (nI c) (nI u) (nI y) w K1 n i s) (kont := fun s i => K1 i s) (fun i s => vw s = vw σ ∧ gL s = gL σ ∧ ∀ j, j < i → gA s 106 j = if j = be then 1 else 0) (by
    rintro n s i hi ⟨v, g, z⟩
    have hin : inb (nI i) 21 = true := inb_nI hi (by decide)
    refine ⟨sA s 106 i (if i = be then 1 else 0), ?_, by rw [vw_sA (by rfl)]; exact v, g, ?_⟩
    · show Mo_oddsNow_L3 fu (nI c) (nI u) (nI y) w K1 (n + 1) (nI i) s = _
      rw [Mo_oddsNow_L3, if_neg (nI20 hi), if_pos hu1, hu2, vw_gA v (by rfl), hbe, ix_nI (by omega), nI_1]
      by_cases q : i = be
      · rw [if_neg (fun z => z (by rw [q])), if_pos hin, if_pos q]
      · rw [if_pos (fun z => q ((nI_eq (by omega) (by omega)).mp z)), if_pos hin, if_neg q]
    · intro j hj
      rw [gA_sA_same]
      by_cases q : j = i
      · simp [q]
      · simp [q, z j (by omega)]) (by
    rintro n s -
    show Mo_oddsNow_L3 fu (nI c) (nI u) (nI y) w K1 (n + 1) (nI 21) s = _
    rw [Mo_oddsNow_L3, if_pos (by decide)]) 21 fu σ 0 rfl (by omega) ⟨rfl, rfl, fun j hj => absurd hj (by omega)⟩
  have e1' : Mo_oddsNow_L3 fu (nI c) (nI u) (nI y) w K1 fu (0 : Int32) σ = K1 (nI 21) s1 := e1
  rw [e1', ← hK1]
  show ∃ s, Mo_oddsNow_L45 fu (nI c) (nI u) (nI y) w _ fu (1 : Int32) (0 : Int32) s1 = _ ∧ _
  generalize hK2 : (fun (l5_19 l6_20 : Int32) (s21 : Sg) => bindV (Mo_cost fu s21 (nI c)) fun r22 => Mo_oddsNow_L205 fu w l5_19 s21 (fun l6_24 l7_25 => bindV (Mo_divisor fu l6_24 l5_19) fun r26 => if ¬ w = 0 then (if r26 = 0 then none else (some (l5_19 / r26, s21))) else (if r26 = 0 then none else (some (l6_24 / r26, s21)))) fu (0 : Int32) r22) = K2
  obtain ⟨⟨p2, s2⟩, ⟨v2, g2, p2e, d2⟩, e2⟩ := loop_ex (N := y) (L := fun n (a : Int32 × Sg) i => Mo_oddsNow_L45 fu (nI c) (nI u) (nI y) w K2 n a.1 i a.2) (kont := fun a i => K2 a.1 i a.2) (fun i a => vw a.2 = vw σ ∧ gL a.2 = gL σ ∧ a.1 = nI ((d + 1) ^ i) ∧ dotN (gA a.2 106) (gwI (nI q) d (y - i)) 21 = gwI (nI q) d y be) (by
    rintro n ⟨p, s⟩ i hi ⟨v, g, pe, z⟩
    obtain ⟨s', v', g', z', e'⟩ := odds_year (σ := s) (fu := fu) (u := u) (d := d) (by omega) hu (by rw [vw_gA v (by rfl)]; exact hd) hd9 (nI c) (nI y) w p (nI i) (fun l7_17 s18 => if inb (nI u) 3 = true then (Mo_oddsNow_L45 fu (nI c) (nI u) (nI y) w K2 n (p * ((gA s18 93 (ix (nI u))) + (1 : Int32))) (nI i + (1 : Int32)) s18) else none)
    refine ⟨(nI ((d + 1) ^ (i + 1)), s'), ?_, v'.trans v, g'.trans g, rfl, ?_⟩
    · show Mo_oddsNow_L45 fu (nI c) (nI u) (nI y) w K2 (n + 1) p (nI i) s = _
      rw [Mo_oddsNow_L45, if_neg (nI_ge hi (by omega)), e', if_pos hu1, hu2, vw_gA (v'.trans v) (by rfl), hd, nI_1, nI_1, show p = nI ((d + 1) ^ i) from pe, nI_mul, ← Nat.pow_succ]
    · show dotN (gA s' 106) (gwI (nI q) d (y - (i + 1))) 21 = _
      rw [z', ← z]
      refine dotN_cong 21 (fun _ _ => rfl) (fun b hb => ?_)
      rw [show y - i = (y - (i + 1)) + 1 by omega, gwI]
      rfl) (by
    rintro n ⟨p, s⟩ -
    show Mo_oddsNow_L45 fu (nI c) (nI u) (nI y) w K2 (n + 1) p (nI y) s = _
    rw [Mo_oddsNow_L45, if_pos (Int32.le_refl _)]) y fu (1, s1) 0 (Nat.zero_add _) (by omega) ⟨v1, g1, rfl, dotN_one _ w1 (by omega)⟩
  have e2' : Mo_oddsNow_L45 fu (nI c) (nI u) (nI y) w K2 fu (1 : Int32) (0 : Int32) s1 = K2 p2 (nI y) s2 := e2
  have p2e' : p2 = nI ((d + 1) ^ y) := p2e
  have v2' : vw s2 = vw σ := v2
  have d2' : dotN (gA s2 106) (gwI (nI q) d (y - y)) 21 = gwI (nI q) d y be := d2
  have hcost : Mo_cost fu s2 (nI c) = some (nI q) := by
    rw [Mo_cost_is (by rw [vw_gF v2' (by rfl), hN]) hN7 (by omega) hc, vw_gA v2' (by rfl), vw_gA v2' (by rfl), vw_gA v2' (by rfl), hq]
  have hpos : 1 ≤ (d + 1) ^ y := Nat.pow_pos (by omega)
  have hgp : 0 < Nat.gcd g ((d + 1) ^ y) := Nat.gcd_pos_of_pos_right g (by omega)
  have hgle : Nat.gcd g ((d + 1) ^ y) ≤ (d + 1) ^ y := Nat.le_of_dvd (by omega) (Nat.gcd_dvd_right g _)
  have hg0 : ¬ nI (Nat.gcd g ((d + 1) ^ y)) = 0 := fun z => by have := (nI_eq0 (by omega)).mp z; omega
  have hsum : fo (fun i a => a + gA s2 106 i) (21 - q) q 0 = nI g := by
    rw [← hg, ← d2', Nat.sub_self, ← dotN_from (gA s2 106) q 21 (by omega) (by omega)]
    rfl
  refine ⟨s2, ?_, v2', g2⟩
  rw [e2', p2e', ← hK2]
  show (bindV (Mo_cost fu s2 (nI c)) fun r22 => Mo_oddsNow_L205 fu w (nI ((d + 1) ^ y)) s2 _ fu (0 : Int32) r22) = _
  rw [hcost, bindV_some]
  refine (loop_f0 (N := 21) (L := fun n acc i => Mo_oddsNow_L205 fu w (nI ((d + 1) ^ y)) s2 (fun l6_24 l7_25 => bindV (Mo_divisor fu l6_24 (nI ((d + 1) ^ y))) fun r26 => if ¬ w = 0 then (if r26 = 0 then none else (some (nI ((d + 1) ^ y) / r26, s2))) else (if r26 = 0 then none else (some (l6_24 / r26, s2)))) n acc i) (kont := fun l6_24 _ => bindV (Mo_divisor fu l6_24 (nI ((d + 1) ^ y))) fun r26 => if ¬ w = 0 then (if r26 = 0 then none else (some (nI ((d + 1) ^ y) / r26, s2))) else (if r26 = 0 then none else (some (l6_24 / r26, s2)))) (f := fun i a => a + gA s2 106 i) ?_ ?_ (21 - q) fu 0 q (by omega) (by omega)).trans ?_
  · intro n acc i hi
    show Mo_oddsNow_L205 fu w (nI ((d + 1) ^ y)) s2 _ (n + 1) acc (nI i) = _
    rw [Mo_oddsNow_L205, if_neg (nI20 hi), if_pos (inb_nI hi (by decide)), ix_nI (by omega), nI_1]
  · intro n acc
    show Mo_oddsNow_L205 fu w (nI ((d + 1) ^ y)) s2 _ (n + 1) acc (nI 21) = _
    rw [Mo_oddsNow_L205, if_pos (by decide)]
  · show (bindV (Mo_divisor fu (fo (fun i a => a + gA s2 106 i) (21 - q) q 0) (nI ((d + 1) ^ y))) fun r26 => if ¬ w = 0 then (if r26 = 0 then none else (some (nI ((d + 1) ^ y) / r26, s2))) else (if r26 = 0 then none else (some (fo (fun i a => a + gA s2 106 i) (21 - q) q 0 / r26, s2)))) = _
    rw [hsum, Mo_divisor_is hfu (by omega) hpw, bindV_some]
    by_cases hw : w = 0
    · rw [if_neg (fun z => z hw), if_neg hg0, if_pos hw, nI_div (by omega) (by omega)]
    · rw [if_pos hw, if_neg hg0, if_neg hw, nI_div (by omega) (by omega)]
theorem pow_1000 {d y : Nat} (hd : d ≤ 9) (hy : y ≤ 3) : (d + 1) ^ y ≤ 1000 :=
  Nat.le_trans (Nat.pow_le_pow_left (show d + 1 ≤ 10 by omega) y) (Nat.pow_le_pow_right (by decide) hy)
theorem odds_is {t fu : Nat} (hfu : 2000 ≤ fu) {σ : Sg} (h : Inv t σ) {N T : Nat} (hn : gF σ 5 1 = nI N) (hN7 : N ≤ 7) (ht : gF σ 5 0 = nI T) (hT3 : T ≤ 3) {c u y : Nat} (hc : c < N) (hu : u < T) (hy1 : 1 ≤ y) (hy : y ≤ 3) {w : Int32} (hw : w = 0 ∨ w = 1) :
    ∃ r, Co_odds fu σ (nI c) (nI u) (nI y) w = some r ∧ ∀ s, vw s = vw σ → ∃ s2, Mo_oddsNow fu s (nI c) (nI u) (nI y) w = some (r, s2) ∧ vw s2 = vw s ∧ gL s2 = gL s := by
  obtain ⟨N', T', R, i1, i2, i3, i4, i5, i6, i7⟩ := h
  obtain ⟨n1, n2, t1, t2, n7, t3, -⟩ := i1
  have hTT : T' = T := by
    rw [ht, nI_eq (by omega) (by omega)] at t1
    exact t1.symm
  subst hTT
  have hNN : N' = N := by
    rw [hn, nI_eq (by omega) (by omega)] at n1
    exact n1.symm
  subst hNN
  have i2' := i2
  obtain ⟨⟨d1, d2, d3, d4, d5, d6⟩, ⟨g1, g2, -⟩, d7⟩ := i2'
  obtain ⟨be, be1, be2⟩ := g1 u (by omega)
  obtain ⟨d, dd1, dd2⟩ := g2 u (by omega)
  obtain ⟨q, q1, q2⟩ := cost_rng n7 i2 hc
  have hs : Sh_hasTree σ 5 (nI u) = some 1 := by
    rcases hasTree5 t1 t3 (nI u) with ⟨-, -, -, ec⟩ | ⟨ho, -⟩
    · exact ec
    · rcases ho with ho | ho
      · exact absurd ho (nI_pos (by omega))
      · rw [nI_leI (by omega) (by omega)] at ho; omega
  have hcs : Sh_hasSuit σ 5 (nI c) = some 1 := by
    rcases hasSuit5 n1 n7 (nI c) with ⟨-, -, -, ec⟩ | ⟨ho, -⟩
    · exact ec
    · rcases ho with ho | ho
      · exact absurd ho (nI_pos (by omega))
      · rw [nI_leI (by omega) (by omega)] at ho; omega
  obtain ⟨g, gg1, gg2⟩ := gwI_rng (nI q) dd2 y be
  have hpw := pow_1000 dd2 hy
  have hpos : 1 ≤ (d + 1) ^ y := Nat.pow_pos (by omega)
  have hM : ∀ s, vw s = vw σ → ∃ s2, Mo_oddsNow fu s (nI c) (nI u) (nI y) w = some (if w = 0 then nI (g / Nat.gcd g ((d + 1) ^ y)) else nI ((d + 1) ^ y / Nat.gcd g ((d + 1) ^ y)), s2) ∧ vw s2 = vw s ∧ gL s2 = gL s := by
    intro s v
    exact Mo_oddsNow_is (σ := s) (N := N') hfu (by rw [vw_gF v (by rfl), n2]) n7 (by omega) (by omega) hy (by rw [vw_gA v (by rfl), ← d2]; exact dd1) dd2 (by rw [vw_gA v (by rfl), ← d1]; exact be1) be2 (by rw [vw_gA v (by rfl), vw_gA v (by rfl), vw_gA v (by rfl), costs_two i2 hc]; exact q1) q2 gg1 gg2 hpw w
  refine ⟨_, ?_, hM⟩
  have y1 : ¬ nI y < 1 := fun z => by have := (nI_ltI (b := 1) (by omega) (by omega)).mp z; omega
  have y3 : ¬ 3 < nI y := fun z => by have := (nI_ltI (a := 3) (by omega) (by omega)).mp z; omega
  rw [Co_odds, hcs, bindV_some, if_neg (by decide), hs, bindV_some, if_pos (by decide), if_neg y1, if_neg y3, if_neg (by rcases hw with rfl | rfl <;> decide), if_pos (by rcases hw with rfl | rfl <;> decide), Sh_birdsAt, at_bi5 (by omega), bindV_some, bindV_some, Sh_berries, at_be5 (by omega), bindV_some, bindV_some, cost5 (by omega), bindV_some, be1, dd1, q1, Ch_goodWays_is (by omega) dd2 (nI q) y 10 be hy (by omega) be2, bindV_some, Ch_allWays_is (by omega) hy, bindV_some, gg1, Ch_low_is hfu hpw hpos gg2 hpw, bindV_some, Ch_low_is hfu hpw hpos gg2 (by omega), bindV_some]
  rcases hw with rfl | rfl
  · rw [if_neg (by decide), if_pos rfl]
  · rw [if_pos (by decide), if_neg (by decide)]
theorem three_of {w : Int32} (h0 : ¬ w < 1) (h3 : ¬ 3 < w) : ∃ y, 1 ≤ y ∧ y ≤ 3 ∧ w = nI y := by
  have h0' : ¬ w < 0 := fun z => h0 (Int32.lt_trans z (by decide))
  obtain ⟨j, hj, rfl⟩ := nI_of h0'
  refine ⟨j, ?_, ?_, rfl⟩
  · exact Nat.le_of_not_lt (fun z => h0 ((nI_ltI (b := 1) hj (by omega)).mpr z))
  · exact Nat.le_of_not_lt (fun z => h3 ((nI_ltI (a := 3) (by omega) hj).mpr z))
theorem op_odds {t fu : Nat} (hfu : 2000 ≤ fu) {σ : Sg} (h : Inv t σ) (a b x w : Int32) : opV t (Co_odds fu σ a b x w) (Mo_odds fu σ a b x w) := by
  have hI : Inv (t + 1) σ := h.mono (by omega)
  have h' := h
  obtain ⟨N, T, R, ⟨n1, n2, t1, t2, n7, t3, -⟩, -⟩ := h'
  rcases hasSuit5 n1 n7 a with ⟨c, hc, rfl, ec⟩ | ⟨ho, ec⟩
  · have m1 : Mo_isCase σ (nI c) = some 1 := isCase_in n2 n7 hc
    rcases hasTree5 t1 t3 b with ⟨u, hu, rfl, eu⟩ | ⟨ho, eu⟩
    · have m2 : Mo_isTree σ (nI u) = some 1 := isTree_in t2 t3 hu
      by_cases hx1 : x < 1
      · exact ⟨-102, σ, by rw [Co_odds, ec, bindV_some, if_neg (by decide), eu, bindV_some, if_pos (by decide), if_pos hx1], by rw [Mo_odds, m1, bindV_some, if_neg (by decide), m2, bindV_some, if_pos (by decide), within_is, bindV_some, if_pos]; simp [hx1, b2], hI⟩
      by_cases hx3 : 3 < x
      · exact ⟨-102, σ, by rw [Co_odds, ec, bindV_some, if_neg (by decide), eu, bindV_some, if_pos (by decide), if_neg hx1, if_pos hx3], by rw [Mo_odds, m1, bindV_some, if_neg (by decide), m2, bindV_some, if_pos (by decide), within_is, bindV_some, if_pos]; simp [hx3, b2], hI⟩
      have hxx : b2 (!decide (x < 1) && !decide (3 < x)) = 1 := by simp [hx1, hx3, b2]
      by_cases hw0 : w < 0
      · exact ⟨-102, σ, by rw [Co_odds, ec, bindV_some, if_neg (by decide), eu, bindV_some, if_pos (by decide), if_neg hx1, if_neg hx3, if_pos hw0], by rw [Mo_odds, m1, bindV_some, if_neg (by decide), m2, bindV_some, if_pos (by decide), within_is, bindV_some, hxx, if_neg (by decide), within_is, bindV_some, if_pos]; simp [hw0, b2], hI⟩
      by_cases hw1 : w ≤ 1
      · obtain ⟨y, hy1, hy3, rfl⟩ := three_of hx1 hx3
        obtain ⟨r, e1, hm⟩ := odds_is hfu h n1 n7 t1 t3 hc hu hy1 hy3 (two_of hw0 hw1)
        obtain ⟨s2, e2, v2, -⟩ := hm σ rfl
        refine ⟨r, s2, e1, ?_, hI.of_vw v2⟩
        have hw2 : ¬ 1 < w := Int32.not_lt.mpr hw1
        rw [Mo_odds, m1, bindV_some, if_neg (by decide), m2, bindV_some, if_pos (by decide), within_is, bindV_some, hxx, if_neg (by decide), within_is, bindV_some, if_neg, e2, bindP_some]
        simp [hw0, hw2, b2]
      · have hw2 : 1 < w := Int32.not_le.mp hw1
        exact ⟨-102, σ, by rw [Co_odds, ec, bindV_some, if_neg (by decide), eu, bindV_some, if_pos (by decide), if_neg hx1, if_neg hx3, if_neg hw0, if_neg hw1], by rw [Mo_odds, m1, bindV_some, if_neg (by decide), m2, bindV_some, if_pos (by decide), within_is, bindV_some, hxx, if_neg (by decide), within_is, bindV_some, if_pos]; simp [hw2, b2], hI⟩
    · exact ⟨-101, σ, by rw [Co_odds, ec, bindV_some, if_neg (by decide), eu, bindV_some, if_neg (by decide)], by rw [Mo_odds, m1, bindV_some, if_neg (by decide), isTree_out t2 t3 ho, bindV_some, if_neg (by decide)], hI⟩
  · exact ⟨-101, σ, by rw [Co_odds, ec, bindV_some, if_pos (by decide)], by rw [Mo_odds, isCase_out n2 n7 ho, bindV_some, if_pos (by decide)], hI⟩
