/-! THE PLAN: the call -/
theorem PG_of {σ : Sg} {N : Nat} (i2 : I2 σ N) (hN7 : N ≤ 7) : PG (coA σ) (gA σ 21) (gA σ 15) N := by
  refine ⟨hN7, fun i hi => cost_rng hN7 i2 hi, fun i hi => i2.2.1.2.2.2.2.1 i (by omega), fun i hi j hj => ?_⟩
  rw [(i2.2.2 i hi).2]
  exact allS_lo hN7 hi hj
theorem seek_is {σ : Sg} {N T fu : Nat} (hfu : 1000 ≤ fu) (i2 : I2 σ N) (hn : gF σ 5 1 = nI N) (ht : gF σ 5 0 = nI T) (hN7 : N ≤ 7) (hT3 : T ≤ 3) : ∃ s1, Pl_seek fu σ = some s1 ∧ vw s1 = vw σ ∧ repC s1 N (EE (opA σ) (coA σ) (gA σ 21) (gA σ 15) N T N 0 (some (PS.of (gA σ 7) (gF σ 5 11) 0)) (fun _ => 0) none) := by
  rw [Pl_seek]
  obtain ⟨s, ⟨v, h4, hl⟩, e⟩ := loop_ex (N := T) (L := fun n (s : Sg) i => Pl_seek_L12 fu (fun l1_5 s6 => bindV (Sh_righted s6 5) fun r7 => bindV (Pl_placeFrom fu 10 s6 (0 : Int32) r7 (0 : Int32)) fun s8 => some s8) n i s) (kont := fun s6 _ => bindV (Sh_righted s6 5) fun r7 => bindV (Pl_placeFrom fu 10 s6 (0 : Int32) r7 (0 : Int32)) fun s8 => some s8) (fun i s => vw s = vw σ ∧ gF s 54 4 = -1 ∧ ∀ u, u < i → gA s 56 u = gA σ 7 u) (by
    rintro n s i hi ⟨v, q1, q2⟩
    refine ⟨sA s 56 i (gA σ 7 i), ?_, by rw [vw_sA (by rfl)]; exact v, q1, fun u hu => ?_⟩
    · show Pl_seek_L12 fu _ (n + 1) (nI i) s = _
      rw [Pl_seek_L12, Sh_trees, bindV_some, vw_gF v (by rfl), ht, if_neg (nI_ge hi (by omega)), Sh_berries, at_be5 (by omega), bindV_some, bindV_some, vw_gA v (by rfl), Rw_put_in (r := 55) (n := 3) rfl (by omega) (by decide), bindV_some, nI_1]
    · rw [gA_sA_same]
      show (if u = i then gA σ 7 i else gA s 56 u) = _
      by_cases q : u = i
      · rw [if_pos q, q]
      · rw [if_neg q]; exact q2 u (by omega)) (by
    rintro n s ⟨v, -⟩
    show Pl_seek_L12 fu _ (n + 1) (nI T) s = _
    rw [Pl_seek_L12, Sh_trees, bindV_some, vw_gF v (by rfl), ht, if_pos (Int32.le_refl _)]) T fu (sF (sF σ 54 4 (-1 : Int32)) 54 5 (0 : Int32)) 0 (Nat.zero_add _) (by omega) ⟨by rw [vw_sF (by rfl), vw_sF (by rfl)], by rw [gF_sF, if_neg (by decide), gF_sF, if_pos (And.intro rfl rfl)], fun u hu => absurd hu (by omega)⟩
  obtain ⟨s', e', ⟨v', -, b'⟩, -⟩ := placeFrom_is hfu (PG_of i2 hN7) hn ht hT3 N 10 0 s (PS.of (gA σ 7) (gF σ 5 11) 0) (fun _ => 0) none 0 (Nat.zero_add N) (by omega) ⟨v, hl, h4⟩ (fun j hj => absurd hj (by omega)) rfl (by omega)
  have e'' : Pl_placeFrom fu 10 s (0 : Int32) (gF σ 5 11) (0 : Int32) = some s' := e'
  refine ⟨s', ?_, v', b'⟩
  refine e.trans ?_
  show (bindV (Sh_righted s 5) fun r7 => bindV (Pl_placeFrom fu 10 s (0 : Int32) r7 (0 : Int32)) fun s8 => some s8) = _
  rw [Sh_righted, bindV_some, vw_gF v (by rfl), e'', bindV_some]
theorem planNow_is {σ : Sg} {N T fu : Nat} (hfu : 100000 ≤ fu) (i2 : I2 σ N) (hn : gF σ 91 2 = nI N) (ht : gF σ 91 1 = nI T) (hN7 : N ≤ 7) (hT3 : T ≤ 3) (a : Int32) : ∃ s2 l2 l3, Mo_planNow fu σ a = (if ¬ a = 0 then (if ¬ a = (1 : Int32) then (if inb (a - (10 : Int32)) 7 = true then (some ((gA s2 103 (ix (a - (10 : Int32)))) - (1 : Int32), s2)) else none) else (some (l3, s2))) else (some (l2, s2))) ∧ vw s2 = vw σ ∧ repM l2 l3 s2 N (EE (opA σ) (coA σ) (gA σ 21) (gA σ 15) N T N 0 (some (a0S σ)) (fun _ => 0) none) := by
  rw [Mo_planNow]
  generalize hK : (fun (l2_27 l3_28 l4_29 : Int32) (s30 : Sg) => if ¬ a = 0 then (if ¬ a = (1 : Int32) then (if inb (a - (10 : Int32)) 7 = true then (some ((gA s30 103 (ix (a - (10 : Int32)))) - (1 : Int32), s30)) else none) else (some (l3_28, s30))) else (some (l2_27, s30))) = K
  obtain ⟨s, ⟨v, hz⟩, e⟩ := loop_ex (N := 7) (L := fun n (s : Sg) i => Mo_planNow_L2 fu a (fun l2_2 s3 => Mo_planNow_L36 fu a K fu (-1 : Int32) (268435456 : Int32) (1 : Int32) s3) n i s) (kont := fun s3 _ => Mo_planNow_L36 fu a K fu (-1 : Int32) (268435456 : Int32) (1 : Int32) s3) (fun i s => vw s = vw σ ∧ ∀ j, j < i → gA s 102 j = 0 ∧ gA s 103 j = 0) (by
    rintro n s i hi ⟨v, q⟩
    have hin : inb (nI i) 7 = true := inb_nI hi (by decide)
    refine ⟨sA (sA s 102 i 0) 103 i 0, ?_, by rw [vw_sA (by rfl), vw_sA (by rfl)]; exact v, fun j hj => ⟨?_, ?_⟩⟩
    · show Mo_planNow_L2 fu a _ (n + 1) (nI i) s = _
      rw [Mo_planNow_L2, if_neg (fun z => by have := (nI_leI (a := 7) (by omega) (by omega)).mp z; omega), if_pos hin, if_pos hin, ix_nI (by omega), nI_1]
    · rw [gA_sA_other (by decide), gA_sA_same]
      show (if j = i then (0 : Int32) else gA s 102 j) = 0
      by_cases q2 : j = i
      · rw [if_pos q2]
      · rw [if_neg q2]; exact (q j (by omega)).1
    · rw [gA_sA_same, gA_sA_other (by decide)]
      show (if j = i then (0 : Int32) else gA s 103 j) = 0
      by_cases q2 : j = i
      · rw [if_pos q2]
      · rw [if_neg q2]; exact (q j (by omega)).2) (by
    rintro n s -
    show Mo_planNow_L2 fu a _ (n + 1) (nI 7) s = _
    rw [Mo_planNow_L2, if_pos (by decide)]) 7 fu σ 0 rfl (by omega) ⟨rfl, fun j hj => absurd hj (by omega)⟩
  have hpow : (T + 1) ^ N ≤ 16384 := Nat.le_trans (Nat.pow_le_pow_left (show T + 1 ≤ 4 by omega) N) (Nat.pow_le_pow_right (show 0 < 4 by decide) hN7)
  obtain ⟨s1, l2, l3, e1, v1, r1, b1⟩ := planL36 (fu := fu) (by omega) i2 hN7 hn ht hT3 a K N 0 (fun _ => 0) none fu (-1) 268435456 s (Nat.zero_add N) (fun _ _ _ => rfl) (fun _ _ => Nat.zero_le T) v (fun j hj => (hz j (by omega)).1) ⟨fun i q1 q2 => (hz i q2).2, rfl⟩ (by omega)
  obtain ⟨s2, e2, v2, g2⟩ := next_end (fu := fu) (by omega) hN7 hn ht hT3 v1 (fun j hj => by rw [r1 j hj, if_pos (Nat.zero_le j)])
  refine ⟨s2, l2, l3, ?_, v2, repM_of g2 b1⟩
  refine e.trans ?_
  show Mo_planNow_L36 fu a K fu (-1 : Int32) (268435456 : Int32) (1 : Int32) s = _
  obtain ⟨f, hf⟩ : ∃ k, fu - (T + 1) ^ N = k + 1 := ⟨fu - (T + 1) ^ N - 1, by omega⟩
  rw [e1, e2, bindP_some, hf, Mo_planNow_L36, if_pos rfl, ← hK]
theorem vw_sF_cong {s τ : Sg} (h : vw s = vw τ) (k j : Nat) (x : Int32) : vw (sF s k j x) = vw (sF τ k j x) := by
  refine Prod.ext ?_ (Prod.ext ?_ rfl)
  · funext a b
    show (if relF a b = true then (if a = k ∧ b = j then x else s.1 a b) else 0) = if relF a b = true then (if a = k ∧ b = j then x else τ.1 a b) else 0
    by_cases hr : relF a b = true
    · have e := vw_gF h hr
      rw [if_pos hr, if_pos hr, show s.1 a b = τ.1 a b from e]
    · rw [if_neg hr, if_neg hr]
  · funext a b
    show (if relA a = true then s.2.1 a b else 0) = if relA a = true then τ.2.1 a b else 0
    by_cases hr : relA a = true
    · have e := congrFun (vw_gA h hr) b
      rw [if_pos hr, if_pos hr, show s.2.1 a b = τ.2.1 a b from e]
    · rw [if_neg hr, if_neg hr]
theorem plan_core {t fu N T R pp : Nat} (hfu : 100000 ≤ fu) {σ : Sg} (i1 : I1 σ t N T R) (i2 : I2 σ N) (i3 : I3 σ t N) (i4 : I4 σ) (i5 : I5 σ) (i7 : I7 σ t N T R) (hp : pp < 20) (a : Int32) :
    ∃ (g w : Int32) (row : Nat → Nat) (s1 s2 : Sg), Pl_seek fu (sF σ 0 10 (nI (pp + 1))) = some s1 ∧ vw s1 = vw (sF σ 0 10 (nI (pp + 1))) ∧ gF s1 54 4 = g ∧ gF s1 54 5 = w ∧ (∀ i, i < N → gA s1 60 i = nI (row i) - 1) ∧ Mo_planNow fu (sF s1 91 12 (nI (pp + 1))) a = (if ¬ a = 0 then (if ¬ a = (1 : Int32) then (if inb (a - (10 : Int32)) 7 = true then (some ((gA s2 103 (ix (a - (10 : Int32)))) - (1 : Int32), s2)) else none) else (some (w, s2))) else (some (g, s2))) ∧ (∀ i, i < N → gA s2 103 i = nI (row i)) ∧ (∀ i, N ≤ i → i < 7 → gA s2 103 i = 0) ∧ Inv (t + 1) s2 := by
  have i1' := i1
  obtain ⟨n1, n2, t1, t2, n7, t3, -⟩ := i1'
  have i3' := i3
  obtain ⟨⟨m, m1, m2, -⟩, -⟩ := i3'
  obtain ⟨s1, e1, v1, b1⟩ := seek_is (σ := sF σ 0 10 (nI (pp + 1))) (N := N) (T := T) (fu := fu) (by omega) i2 n1 t1 n7 t3
  have hA : ∀ k, relA k = true → gA (sF s1 91 12 (nI (pp + 1))) k = gA σ k := fun k hk => by rw [gA_sF1, vw_gA v1 hk, gA_sF1]
  have hF : ∀ k j, relF k j = true → ¬ (k = 91 ∧ j = 12) → ¬ (k = 0 ∧ j = 10) → gF (sF s1 91 12 (nI (pp + 1))) k j = gF σ k j := fun k j hk q1 q2 => by rw [gF_sF, if_neg q1, vw_gF v1 hk, gF_sF, if_neg q2]
  have vm : vw (sF s1 91 12 (nI (pp + 1))) = vw (sF (sF σ 0 10 (nI (pp + 1))) 91 12 (nI (pp + 1))) := vw_sF_cong v1 _ _ _
  have i2m : I2 (sF s1 91 12 (nI (pp + 1))) N := by
    obtain ⟨q1, q2, q3⟩ := i2
    refine ⟨?_, ?_, ?_⟩
    · rw [hA 7 (by rfl), hA 9 (by rfl), hA 11 (by rfl), hA 13 (by rfl), hA 15 (by rfl), hA 17 (by rfl), hA 92 (by rfl), hA 93 (by rfl), hA 94 (by rfl), hA 95 (by rfl), hA 96 (by rfl), hA 97 (by rfl)]
      exact q1
    · rw [hA 7 (by rfl), hA 9 (by rfl), hA 11 (by rfl), hA 13 (by rfl), hA 15 (by rfl), hA 17 (by rfl)]
      exact q2
    · rw [hA 17 (by rfl), hA 19 (by rfl), hA 21 (by rfl)]
      exact q3
  obtain ⟨s2, l2, l3, e2, v2, b2⟩ := planNow_is (σ := sF s1 91 12 (nI (pp + 1))) (N := N) (T := T) hfu i2m (by rw [hF 91 2 (by rfl) (by decide) (by decide)]; exact n2) (by rw [hF 91 1 (by rfl) (by decide) (by decide)]; exact t2) n7 t3 a
  have eo : opA (sF s1 91 12 (nI (pp + 1))) = opA σ := by funext i r; rw [opA, opA, hA 11 (by rfl), hA 17 (by rfl)]
  have ec : coA (sF s1 91 12 (nI (pp + 1))) = coA σ := by funext i; rw [coA, coA, hA 11 (by rfl), hA 13 (by rfl), hA 19 (by rfl)]
  have ea : a0S (sF s1 91 12 (nI (pp + 1))) = PS.of (gA σ 7) (gF σ 5 11) 0 := by rw [a0S, hA 92 (by rfl), hF 91 9 (by rfl) (by decide) (by decide), i2.1.1, m1, m2]
  rw [eo, ec, hA 21 (by rfl), hA 15 (by rfl), ea] at b2
  have b1' : repC s1 N (EE (opA σ) (coA σ) (gA σ 21) (gA σ 15) N T N 0 (some (PS.of (gA σ 7) (gF σ 5 11) 0)) (fun _ => 0) none) := b1
  obtain ⟨x, hx⟩ := EE_some (opA σ) (coA σ) (gA σ 21) (gA σ 15) N T N 0 (PS.of (gA σ 7) (gF σ 5 11) 0) (fun _ => 0) none
  rw [hx] at b1' b2
  obtain ⟨g, w, row⟩ := x
  obtain ⟨c1, c2, c3⟩ := b1'
  obtain ⟨c0, c4, c5, c6⟩ := b2
  rw [c4, c5] at e2
  refine ⟨g, w, row, s1, s2, e1, v1, c1, c2, c3, e2, c6, c0, ?_⟩
  refine Inv.of_vw (σ := sF (sF σ 0 10 (nI (pp + 1))) 91 12 (nI (pp + 1))) ?_ (v2.trans vm)
  exact ⟨N, T, R, i1.mono (by omega), i2, i3.mono (by omega), i4, i5, ⟨pp + 1, rfl, rfl, by omega⟩, i7.mono (by omega)⟩
theorem plan_good {t fu : Nat} (ht9 : t ≤ 900) (hfu : 100000 ≤ fu) {σ : Sg} (h : Inv t σ) (a : Int32) (X : Sg → Option (Int32 × Sg)) (hC : Co_plan fu σ a = bindV (Co_isRead σ) fun r3 => if r3 = 0 then (some ((-103 : Int32), σ)) else (if (gF σ 0 10) < (20 : Int32) then (bindV (Pl_seek fu (sF σ 0 10 ((gF σ 0 10) + (1 : Int32)))) X) else (some ((-103 : Int32), σ)))) (hM : ∀ s, Mo_plan fu s a = if (gF s 91 2) = 0 then (some ((-103 : Int32), s)) else (if ¬ (gF s 91 12) = (20 : Int32) then (bindP (Mo_planNow fu (sF s 91 12 ((gF s 91 12) + (1 : Int32))) a) fun r5 s6 => some (r5, s6)) else (some ((-103 : Int32), s))))
    (hX : ∀ (N : Nat) (g w : Int32) (row : Nat → Nat) (s1 s2 : Sg), N ≤ 7 → gF s1 5 1 = nI N → gF s1 54 4 = g → gF s1 54 5 = w → (∀ i, i < N → gA s1 60 i = nI (row i) - 1) → (∀ i, i < N → gA s2 103 i = nI (row i)) → (∀ i, N ≤ i → i < 7 → gA s2 103 i = 0) → ∃ r, X s1 = some (r, s1) ∧ (if ¬ a = 0 then (if ¬ a = (1 : Int32) then (if inb (a - (10 : Int32)) 7 = true then (some ((gA s2 103 (ix (a - (10 : Int32)))) - (1 : Int32), s2)) else none) else (some (w, s2))) else (some (g, s2))) = some (r, s2)) : opP t (Co_plan fu σ a) (fun s => Mo_plan fu s a) := by
  have hI : Inv (t + 1) σ := h.mono (by omega)
  obtain ⟨N, T, R, i1, i2, i3, i4, i5, ⟨pp, x1, x2, x3⟩, i7⟩ := h
  have i1' := i1
  obtain ⟨n1, n2, t1, t2, n7, t3, r1, r2, r3, r4, r5⟩ := i1'
  by_cases hR : R = 0
  · have hN0 := (r4 hR).1
    subst hN0
    refine ⟨-103, σ, σ, by rw [hC, Co_isRead_out (by rw [r1, hR]), bindV_some, if_pos rfl], ?_, hI⟩
    show Mo_plan fu σ a = _
    rw [hM, n2, if_pos (by rfl)]
  · obtain ⟨rN, rT⟩ := r5 (by omega)
    by_cases hp : pp < 20
    · obtain ⟨g, w, row, s1, s2, e1, v1, c1, c2, c3, e2, c4, c5, hi⟩ := plan_core hfu i1 i2 i3 i4 i5 i7 hp a
      have f5 : gF s1 5 1 = nI N := by rw [vw_gF v1 (by rfl)]; exact n1
      obtain ⟨r, q1, q2⟩ := hX N g w row s1 s2 n7 f5 c1 c2 c3 c4 c5
      have f2 : gF s1 91 2 = nI N := by rw [vw_gF v1 (by rfl)]; exact n2
      have f12 : gF s1 91 12 = nI pp := by rw [vw_gF v1 (by rfl)]; exact x2
      refine ⟨r, s1, s2, ?_, ?_, hi⟩
      · rw [hC, Co_isRead_in r1 (by omega) (by have := rN; omega), bindV_some, if_neg (by decide), x1, if_pos (show nI pp < 20 from (nI_ltI (b := 20) (by omega) (by omega)).mpr hp), nI_1, e1, bindV_some, q1]
      · show Mo_plan fu s1 a = _
        rw [hM, f2, if_neg (nI_ne0 (by omega) (by omega)), f12, if_pos (fun z => by have := (nI_inj (b := 20) (by omega) (by omega)).mp z; omega), nI_1, e2, q2, bindP_some]
    · have hpe : pp = 20 := by omega
      refine ⟨-103, σ, σ, ?_, ?_, hI⟩
      · rw [hC, Co_isRead_in r1 (by omega) (by omega), bindV_some, if_neg (by decide), x1, if_neg (show ¬ nI pp < 20 from fun z => hp ((nI_ltI (b := 20) (by omega) (by omega)).mp z))]
      · show Mo_plan fu σ a = _
        rw [hM, n2, if_neg (nI_ne0 (by omega) (by omega)), x2, hpe, if_neg (fun z => z rfl)]
theorem op_plan {t fu : Nat} (ht : t ≤ 900) (hfu : 100000 ≤ fu) {σ : Sg} (h : Inv t σ) (a : Int32) : opP t (Co_plan fu σ a) (fun s => Mo_plan fu s a) := by
  by_cases a0 : a = 0
  · subst a0
    refine plan_good ht hfu h 0 (fun s6 => if ¬ (0 : Int32) = 0 then (bindV (Pl_spent s6) fun r8 => some (r8, s6)) else (bindV (Pl_holds s6) fun r9 => some (r9, s6))) (by rw [Co_plan, if_pos (by decide), if_pos rfl]) (fun s => by rw [Mo_plan, within_is, bindV_some, if_pos (by decide)]) (fun N g w row s1 s2 n7 f5 c1 c2 c3 c4 c5 => ⟨g, ?_, ?_⟩)
    · show (if ¬ (0 : Int32) = 0 then _ else _) = _
      rw [if_neg (fun z => z rfl), Pl_holds, bindV_some, c1]
    · rw [if_neg (fun z => z rfl)]
  by_cases a1 : a = 1
  · subst a1
    refine plan_good ht hfu h 1 (fun s6 => if ¬ (1 : Int32) = 0 then (bindV (Pl_spent s6) fun r8 => some (r8, s6)) else (bindV (Pl_holds s6) fun r9 => some (r9, s6))) (by rw [Co_plan, if_pos (by decide), if_neg (by decide), if_pos rfl]) (fun s => by rw [Mo_plan, within_is, bindV_some, if_pos (by decide)]) (fun N g w row s1 s2 n7 f5 c1 c2 c3 c4 c5 => ⟨w, ?_, ?_⟩)
    · show (if ¬ (1 : Int32) = 0 then _ else _) = _
      rw [if_pos (by decide), Pl_spent, bindV_some, c2]
    · rw [if_pos (by decide), if_neg (fun z => z rfl)]
  have hw01 : b2 (!decide (a < 0) && !decide (1 < a)) = 0 := by
    by_cases q0 : a < 0
    · simp [q0, b2]
    · by_cases q1 : a ≤ 1
      · rcases two_of q0 q1 with z | z
        · exact absurd z a0
        · exact absurd z a1
      · have : 1 < a := Int32.not_le.mp q1
        simp [this, b2]
  by_cases l10 : a < 10
  · refine ⟨-102, σ, σ, by rw [Co_plan, if_pos l10, if_neg a0, if_neg a1], ?_, h.mono (by omega)⟩
    show Mo_plan fu σ a = _
    rw [Mo_plan, within_is, bindV_some, hw01, if_neg (fun z => z rfl), within_is, bindV_some, if_neg]
    simp [l10, b2]
  by_cases g17 : 17 ≤ a
  · refine ⟨-102, σ, σ, by rw [Co_plan, if_neg l10, if_pos g17, if_neg a0, if_neg a1], ?_, h.mono (by omega)⟩
    have h16 : 16 < a := Int32.lt_of_lt_of_le (by decide) g17
    show Mo_plan fu σ a = _
    rw [Mo_plan, within_is, bindV_some, hw01, if_neg (fun z => z rfl), within_is, bindV_some, if_neg]
    simp [h16, b2]
  · have hp : ¬ a < 0 := fun z => l10 (Int32.lt_trans z (by decide))
    obtain ⟨c, hc, rfl⟩ := nI_of hp
    have c10 : 10 ≤ c := Nat.le_of_not_lt (fun z => l10 ((nI_ltI (b := 10) hc (by omega)).mpr z))
    have c17 : c < 17 := Nat.lt_of_not_le (fun z => g17 ((nI_leI (a := 17) (by omega) hc).mpr z))
    have h16 : ¬ (16 : Int32) < nI c := fun z => by have := (nI_ltI (a := 16) (by omega) hc).mp z; omega
    have hsub : nI c - 10 = nI (c - 10) := pk_sub (b := 10) c10
    have hin : inb (nI (c - 10)) 7 = true := inb_nI (by omega) (by decide)
    have hix : ix (nI (c - 10)) = c - 10 := ix_nI (by omega)
    refine plan_good ht hfu h (nI c) (fun s50 => bindV (Pl_placeOf s50 (nI c - (10 : Int32))) fun r51 => some (r51, s50)) (by rw [Co_plan, if_neg l10, if_neg g17, if_neg a0, if_neg a1]) (fun s => by rw [Mo_plan, within_is, bindV_some, hw01, if_neg (fun z => z rfl), within_is, bindV_some, if_pos]; simp [l10, h16, b2]) (fun N g w row s1 s2 n7 f5 c1 c2 c3 c4 c5 => ?_)
    rw [if_pos a0, if_pos a1, hsub, if_pos hin, hix]
    rcases hasSuit5 f5 n7 (nI (c - 10)) with ⟨d, hd, ed, ec⟩ | ⟨ho, ec⟩
    · have hdc : d = c - 10 := ((nI_inj (by omega) (by omega)).mp ed).symm
      subst hdc
      refine ⟨nI (row (c - 10)) - 1, ?_, by rw [c4 _ hd]⟩
      rw [Pl_placeOf, ec, bindV_some, if_neg (by decide), Rw_at_in (r := 59) (n := 7) rfl (by omega) (by decide), bindV_some, bindV_some]
      show some (gA s1 60 (c - 10), s1) = _
      rw [c3 _ hd]
    · have hge : N ≤ c - 10 := by
        rcases ho with z | z
        · exact absurd z (nI_pos (by omega))
        · exact (nI_leI (by omega) (by omega)).mp z
      refine ⟨-1, ?_, by rw [c5 _ hge (by omega)]; rfl⟩
      rw [Pl_placeOf, ec, bindV_some, if_pos (by rfl), bindV_some]
