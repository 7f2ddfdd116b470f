/-! THE DIGEST -/
def opL (t : Nat) (C : Option (Int64 × Sg)) (M : Sg → Option (Int64 × Sg)) : Prop := ∃ r σ1 σ2, C = some (r, σ1) ∧ M σ1 = some (r, σ2) ∧ Inv (t + 1) σ2
def mx (f : Nat → Int32) (w : Nat) (a : Int64) : Int64 := (31 : Int64) * a + (f w).toInt64
def mixes (f : Nat → Int32) (n : Nat) (a : Int64) : Int64 := fo (mx f) n 0 a
theorem mixes_succ (f : Nat → Int32) (n : Nat) (a : Int64) : mixes f (n + 1) a = (31 : Int64) * mixes f n a + (f n).toInt64 := by
  rw [mixes, fo_succ, Nat.zero_add]
  rfl
theorem ends {a b : Nat} (ha : a < 2147483648) (hb : b < 2147483648) : nI a < nI b ↔ a < b := nI_ltI ha hb
theorem Mo_mix_is {s : Sg} {h : Int64} (hh : gL s 91 45 = h) (v : Int64) : ∃ s', Mo_mix s v = some s' ∧ vw s' = vw s ∧ gL s' 91 45 = (31 : Int64) * h + v := by
  refine ⟨_, rfl, vw_sL, ?_⟩
  rw [gL_sL1, hh]
def dgT (tv gv : Nat → Nat → Int32) (u : Nat) (a : Int64) : Int64 := mixes (gv u) 2 (mixes (tv u) 3 a)
def dgS (sv ov : Nat → Nat → Int32) (c : Nat) (a : Int64) : Int64 := mixes (ov c) 2 (mixes (sv c) 10 a)
theorem dg_trees_C {fu T : Nat} (hfu : 1000 ≤ fu) {σ : Sg} (ht : gF σ 5 0 = nI T) (hT3 : T ≤ 3) {tv gv : Nat → Nat → Int32} (htv : ∀ u w, (u < T ∧ w < 3) → ∀ s, vw s = vw σ → Co_tree fu s (nI u) (nI w) = some (tv u w) ∧ Mo_treeNow fu s (nI u) (nI w) = some (tv u w)) (hgv : ∀ u w, (u < T ∧ w < 2) → (∀ s, vw s = vw σ → ∃ s', Co_game fu s (nI u) (nI w) = some (gv u w, s') ∧ vw s' = vw σ) ∧ ∀ s, vw s = vw σ → ∃ s', Mo_gameNow fu s (nI u) (nI w) = some (gv u w, s') ∧ vw s' = vw σ ∧ gL s' = gL s) (K : Int64 → Int32 → Sg → Option (Int64 × Sg)) (a0 : Int64) :
    ∃ s', vw s' = vw σ ∧ Co_digest_L6 fu K fu a0 (0 : Int32) σ = K (fo (dgT tv gv) T 0 a0) (nI T) s' := by
  obtain ⟨⟨a, s⟩, ⟨v, e⟩, h⟩ := loop_ex (N := T) (L := fun n (p : Int64 × Sg) i => Co_digest_L6 fu K n p.1 i p.2) (kont := fun p i => K p.1 i p.2) (fun i p => vw p.2 = vw σ ∧ p.1 = fo (dgT tv gv) i 0 a0) (by
    rintro n ⟨a, s⟩ u hu ⟨v, e⟩
    have v' : vw s = vw σ := v
    -- the game's two figures
    obtain ⟨⟨b, s'⟩, ⟨w1, w2⟩, w3⟩ := loop_ex (N := 2) (L := fun n' (p : Int64 × Sg) i => Co_digest_L48 fu (nI u) (fun l1_12 l4_13 s14 => Co_digest_L6 fu K n l1_12 (nI u + (1 : Int32)) s14) n' p.1 i p.2) (kont := fun p _ => Co_digest_L6 fu K n p.1 (nI u + (1 : Int32)) p.2) (fun i p => vw p.2 = vw σ ∧ p.1 = mixes (gv u) i (mixes (tv u) 3 a)) (by
      rintro n' ⟨b, s⟩ w hw ⟨vv, ee⟩
      obtain ⟨s', g1, g2⟩ := (hgv u w ⟨hu, hw⟩).1 s vv
      refine ⟨((31 : Int64) * b + (gv u w).toInt64, s'), ?_, g2, ?_⟩
      · show Co_digest_L48 fu (nI u) _ (n' + 1) b (nI w) s = _
        rw [Co_digest_L48, if_neg (fun z => by have := (nI_ltI (a := 1) (by omega) (by omega)).mp z; omega), g1, bindP_some, Co_mixed, bindV_some, nI_1, nI_1]
      · rw [mixes_succ]
        show (31 : Int64) * b + _ = _
        rw [show b = mixes (gv u) w (mixes (tv u) 3 a) from ee]) (by
      rintro n' ⟨b, s⟩ -
      show Co_digest_L48 fu (nI u) _ (n' + 1) b (nI 2) s = _
      rw [Co_digest_L48, if_pos (by decide)]) 2 fu (mixes (tv u) 3 a, s) 0 rfl (by omega) ⟨v', rfl⟩
    refine ⟨(b, s'), ?_, w1, ?_⟩
    · show Co_digest_L6 fu K (n + 1) a (nI u) s = _
      rw [Co_digest_L6, Sh_trees, bindV_some, vw_gF v' (by rfl), ht, if_neg (nI_ge hu (by omega))]
      refine (loop_f0 (N := 3) (L := fun n' acc i => Co_digest_L20 fu (nI u) s (fun l1_6 l4_7 => Co_digest_L48 fu (nI u) (fun l1_12 l4_13 s14 => Co_digest_L6 fu K n l1_12 (nI u + (1 : Int32)) s14) fu l1_6 (0 : Int32) s) n' acc i) (kont := fun l1_6 _ => Co_digest_L48 fu (nI u) (fun l1_12 l4_13 s14 => Co_digest_L6 fu K n l1_12 (nI u + (1 : Int32)) s14) fu l1_6 (0 : Int32) s) (f := mx (tv u)) ?_ ?_ 3 fu a 0 rfl (by omega)).trans ?_
      · intro n' acc w hw
        show Co_digest_L20 fu (nI u) s _ (n' + 1) acc (nI w) = _
        rw [Co_digest_L20, if_neg (fun z => by have := (nI_ltI (a := 2) (by omega) (by omega)).mp z; omega), (htv u w ⟨hu, hw⟩ s v').1, bindV_some, Co_mixed, bindV_some, nI_1, nI_1]
        rfl
      · intro n' acc
        show Co_digest_L20 fu (nI u) s _ (n' + 1) acc (nI 3) = _
        rw [Co_digest_L20, if_pos (by decide)]
      · refine w3.trans ?_
        show Co_digest_L6 fu K n b (nI u + 1) s' = _
        rw [nI_1]
    · show b = _
      rw [fo_succ, Nat.zero_add, show b = mixes (gv u) 2 (mixes (tv u) 3 a) from w2, show a = fo (dgT tv gv) u 0 a0 from e]
      rfl) (by
    rintro n ⟨a, s⟩ ⟨v, -⟩
    show Co_digest_L6 fu K (n + 1) a (nI T) s = _
    rw [Co_digest_L6, Sh_trees, bindV_some, vw_gF v (by rfl), ht, if_pos (Int32.le_refl _)]) T fu (a0, σ) 0 (Nat.zero_add _) (by omega) ⟨rfl, rfl⟩
  refine ⟨s, v, ?_⟩
  have h' : Co_digest_L6 fu K fu a0 (0 : Int32) σ = K a (nI T) s := h
  rw [h', show a = fo (dgT tv gv) T 0 a0 from e]
theorem dg_trees_M {fu T : Nat} (hfu : 1000 ≤ fu) {σ : Sg} (ht : gF σ 91 1 = nI T) (hT3 : T ≤ 3) {tv gv : Nat → Nat → Int32} (htv : ∀ u w, (u < T ∧ w < 3) → ∀ s, vw s = vw σ → Co_tree fu s (nI u) (nI w) = some (tv u w) ∧ Mo_treeNow fu s (nI u) (nI w) = some (tv u w)) (hgv : ∀ u w, (u < T ∧ w < 2) → (∀ s, vw s = vw σ → ∃ s', Co_game fu s (nI u) (nI w) = some (gv u w, s') ∧ vw s' = vw σ) ∧ ∀ s, vw s = vw σ → ∃ s', Mo_gameNow fu s (nI u) (nI w) = some (gv u w, s') ∧ vw s' = vw σ ∧ gL s' = gL s) (K : Int32 → Sg → Option (Int64 × Sg)) (a0 : Int64) (s0 : Sg) (v0 : vw s0 = vw σ) (h0 : gL s0 91 45 = a0) :
    ∃ s', vw s' = vw σ ∧ gL s' 91 45 = fo (dgT tv gv) T 0 a0 ∧ Mo_digest_L9 fu K fu (0 : Int32) s0 = K (nI T) s' := by
  obtain ⟨s, ⟨v, e⟩, h⟩ := loop_ex (N := T) (L := fun n (s : Sg) i => Mo_digest_L9 fu K n i s) (kont := fun s i => K i s) (fun i s => vw s = vw σ ∧ gL s 91 45 = fo (dgT tv gv) i 0 a0) (by
    rintro n s u hu ⟨v, e⟩
    generalize hK : (fun (l2_5 : Int32) (s6 : Sg) => bindP (Mo_gameNow fu s6 (nI u) (0 : Int32)) fun r7 s8 => bindV (Mo_mix s8 r7.toInt64) fun s9 => bindP (Mo_gameNow fu s9 (nI u) (1 : Int32)) fun r10 s11 => bindV (Mo_mix s11 r10.toInt64) fun s12 => Mo_digest_L9 fu K n (nI u + (1 : Int32)) s12) = K1
    obtain ⟨s3, ⟨v3, e3⟩, h3⟩ := loop_ex (N := 3) (L := fun n' (s : Sg) i => Mo_digest_L19 fu (nI u) K1 n' i s) (kont := fun s i => K1 i s) (fun i s' => vw s' = vw σ ∧ gL s' 91 45 = mixes (tv u) i (gL s 91 45)) (by
      rintro n' s' w hw ⟨vv, ee⟩
      obtain ⟨s2, m1, m2, m3⟩ := Mo_mix_is ee (tv u w).toInt64
      refine ⟨s2, ?_, m2.trans vv, by rw [m3, mixes_succ]⟩
      show Mo_digest_L19 fu (nI u) K1 (n' + 1) (nI w) s' = _
      rw [Mo_digest_L19, if_neg (fun z => by have := (nI_leI (a := 3) (by omega) (by omega)).mp z; omega), (htv u w ⟨hu, hw⟩ s' vv).2, bindV_some, m1, bindV_some, nI_1]) (by
      rintro n' s' -
      show Mo_digest_L19 fu (nI u) K1 (n' + 1) (nI 3) s' = _
      rw [Mo_digest_L19, if_pos (by decide)]) 3 fu s 0 rfl (by omega) ⟨v, rfl⟩
    obtain ⟨s4, g1, g2, g3⟩ := (hgv u 0 ⟨hu, by decide⟩).2 s3 v3
    obtain ⟨s5, m1, m2, m3⟩ := Mo_mix_is (s := s4) (h := mixes (tv u) 3 (gL s 91 45)) (by rw [g3]; exact e3) (gv u 0).toInt64
    obtain ⟨s6, g4, g5, g6⟩ := (hgv u 1 ⟨hu, by decide⟩).2 s5 (m2.trans g2)
    obtain ⟨s7, m4, m5, m6⟩ := Mo_mix_is (s := s6) (h := (31 : Int64) * mixes (tv u) 3 (gL s 91 45) + (gv u 0).toInt64) (by rw [g6]; exact m3) (gv u 1).toInt64
    refine ⟨s7, ?_, m5.trans g5, ?_⟩
    · show Mo_digest_L9 fu K (n + 1) (nI u) s = _
      rw [Mo_digest_L9, vw_gF v (by rfl), ht, if_neg (nI_ge hu (by omega)), hK]
      refine h3.trans ?_
      rw [← hK]
      show (bindP (Mo_gameNow fu s3 (nI u) (nI 0)) fun r7 s8 => bindV (Mo_mix s8 r7.toInt64) fun s9 => bindP (Mo_gameNow fu s9 (nI u) (nI 1)) fun r10 s11 => bindV (Mo_mix s11 r10.toInt64) fun s12 => Mo_digest_L9 fu K n (nI u + (1 : Int32)) s12) = _
      rw [g1, bindP_some, m1, bindV_some, g4, bindP_some, m4, bindV_some, nI_1]
    · rw [m6, fo_succ, Nat.zero_add, ← e]
      rfl) (by
    rintro n s ⟨v, -⟩
    show Mo_digest_L9 fu K (n + 1) (nI T) s = _
    rw [Mo_digest_L9, vw_gF v (by rfl), ht, if_pos (Int32.le_refl _)]) T fu s0 0 (Nat.zero_add _) (by omega) ⟨v0, h0⟩
  exact ⟨s, v, e, h⟩
theorem dg_suits_C {fu N : Nat} (hfu : 1000 ≤ fu) {σ s : Sg} (vs : vw s = vw σ) (hn : gF σ 5 1 = nI N) (hN7 : N ≤ 7) {sv ov : Nat → Nat → Int32} (hsv : ∀ c w, (c < N ∧ w < 10) → ∀ s, vw s = vw σ → Co_suit fu s (nI c) (nI w) = some (sv c w) ∧ Mo_suitNow fu s (nI c) (nI w) = some (sv c w, s)) (hov : ∀ c w, (c < N ∧ w < 2) → (∀ s, vw s = vw σ → Co_odds fu s (nI c) 0 2 (nI w) = some (ov c w)) ∧ ∀ s, vw s = vw σ → ∃ s', Mo_oddsNow fu s (nI c) 0 2 (nI w) = some (ov c w, s') ∧ vw s' = vw σ ∧ gL s' = gL s) (K : Int64 → Int32 → Option (Int64 × Sg)) (a0 : Int64) :
    Co_digest_L81 fu s K fu a0 (0 : Int32) = K (fo (dgS sv ov) N 0 a0) (nI N) := by
  refine (loop_f0 (N := N) (L := fun n acc i => Co_digest_L81 fu s K n acc i) (kont := K) (f := dgS sv ov) ?_ ?_ N fu a0 0 (Nat.zero_add _) (by omega))
  · intro n acc c hc
    show Co_digest_L81 fu s K (n + 1) acc (nI c) = _
    rw [Co_digest_L81, Sh_suits, bindV_some, vw_gF vs (by rfl), hn, if_neg (nI_ge hc (by omega))]
    refine (loop_f0 (N := 10) (L := fun n' acc i => Co_digest_L95 fu (nI c) s (fun l1_23 l4_24 => Co_digest_L124 fu (nI c) s (fun l1_28 l4_29 => Co_digest_L81 fu s K n l1_28 (nI c + (1 : Int32))) fu l1_23 (0 : Int32)) n' acc i) (kont := fun l1_23 _ => Co_digest_L124 fu (nI c) s (fun l1_28 l4_29 => Co_digest_L81 fu s K n l1_28 (nI c + (1 : Int32))) fu l1_23 (0 : Int32)) (f := mx (sv c)) ?_ ?_ 10 fu acc 0 rfl (by omega)).trans ?_
    · intro n' acc w hw
      show Co_digest_L95 fu (nI c) s _ (n' + 1) acc (nI w) = _
      rw [Co_digest_L95, if_neg (nI9 (by omega)), (hsv c w ⟨hc, hw⟩ s vs).1, bindV_some, Co_mixed, bindV_some, nI_1, nI_1]
      rfl
    · intro n' acc
      show Co_digest_L95 fu (nI c) s _ (n' + 1) acc (nI 10) = _
      rw [Co_digest_L95, if_pos (by decide)]
    · refine (loop_f0 (N := 2) (L := fun n' acc i => Co_digest_L124 fu (nI c) s (fun l1_28 l4_29 => Co_digest_L81 fu s K n l1_28 (nI c + (1 : Int32))) n' acc i) (kont := fun l1_28 _ => Co_digest_L81 fu s K n l1_28 (nI c + (1 : Int32))) (f := mx (ov c)) ?_ ?_ 2 fu (fo (mx (sv c)) 10 0 acc) 0 rfl (by omega)).trans ?_
      · intro n' acc w hw
        show Co_digest_L124 fu (nI c) s _ (n' + 1) acc (nI w) = _
        rw [Co_digest_L124, if_neg (fun z => by have := (nI_ltI (a := 1) (by omega) (by omega)).mp z; omega), (hov c w ⟨hc, hw⟩).1 s vs, bindV_some, Co_mixed, bindV_some, nI_1, nI_1]
        rfl
      · intro n' acc
        show Co_digest_L124 fu (nI c) s _ (n' + 1) acc (nI 2) = _
        rw [Co_digest_L124, if_pos (by decide)]
      · show Co_digest_L81 fu s K n _ (nI c + 1) = _
        rw [nI_1]
        rfl
  · intro n acc
    show Co_digest_L81 fu s K (n + 1) acc (nI N) = _
    rw [Co_digest_L81, Sh_suits, bindV_some, vw_gF vs (by rfl), hn, if_pos (Int32.le_refl _)]
theorem dg_suits_M {fu N : Nat} (hfu : 1000 ≤ fu) {σ : Sg} (hn : gF σ 91 2 = nI N) (hN7 : N ≤ 7) {sv ov : Nat → Nat → Int32} (hsv : ∀ c w, (c < N ∧ w < 10) → ∀ s, vw s = vw σ → Co_suit fu s (nI c) (nI w) = some (sv c w) ∧ Mo_suitNow fu s (nI c) (nI w) = some (sv c w, s)) (hov : ∀ c w, (c < N ∧ w < 2) → (∀ s, vw s = vw σ → Co_odds fu s (nI c) 0 2 (nI w) = some (ov c w)) ∧ ∀ s, vw s = vw σ → ∃ s', Mo_oddsNow fu s (nI c) 0 2 (nI w) = some (ov c w, s') ∧ vw s' = vw σ ∧ gL s' = gL s) (K : Int32 → Sg → Option (Int64 × Sg)) (a0 : Int64) (s0 : Sg) (v0 : vw s0 = vw σ) (h0 : gL s0 91 45 = a0) :
    ∃ s', vw s' = vw σ ∧ gL s' 91 45 = fo (dgS sv ov) N 0 a0 ∧ Mo_digest_L71 fu K fu (0 : Int32) s0 = K (nI N) s' := by
  obtain ⟨s, ⟨v, e⟩, h⟩ := loop_ex (N := N) (L := fun n (s : Sg) i => Mo_digest_L71 fu K n i s) (kont := fun s i => K i s) (fun i s => vw s = vw σ ∧ gL s 91 45 = fo (dgS sv ov) i 0 a0) (by
    rintro n s c hc ⟨v, e⟩
    generalize hK : (fun (l2_20 : Int32) (s21 : Sg) => bindP (Mo_oddsNow fu s21 (nI c) (0 : Int32) (2 : Int32) (0 : Int32)) fun r22 s23 => bindV (Mo_mix s23 r22.toInt64) fun s24 => bindP (Mo_oddsNow fu s24 (nI c) (0 : Int32) (2 : Int32) (1 : Int32)) fun r25 s26 => bindV (Mo_mix s26 r25.toInt64) fun s27 => Mo_digest_L71 fu K n (nI c + (1 : Int32)) s27) = K1
    obtain ⟨s3, ⟨v3, e3⟩, h3⟩ := loop_ex (N := 10) (L := fun n' (s : Sg) i => Mo_digest_L81 fu (nI c) K1 n' i s) (kont := fun s i => K1 i s) (fun i s' => vw s' = vw σ ∧ gL s' 91 45 = mixes (sv c) i (gL s 91 45)) (by
      rintro n' s' w hw ⟨vv, ee⟩
      obtain ⟨s2, m1, m2, m3⟩ := Mo_mix_is ee (sv c w).toInt64
      refine ⟨s2, ?_, m2.trans vv, by rw [m3, mixes_succ]⟩
      show Mo_digest_L81 fu (nI c) K1 (n' + 1) (nI w) s' = _
      rw [Mo_digest_L81, if_neg (fun z => by have := (nI_leI (a := 10) (by omega) (by omega)).mp z; omega), (hsv c w ⟨hc, hw⟩ s' vv).2, bindP_some, m1, bindV_some, nI_1]) (by
      rintro n' s' -
      show Mo_digest_L81 fu (nI c) K1 (n' + 1) (nI 10) s' = _
      rw [Mo_digest_L81, if_pos (by decide)]) 10 fu s 0 rfl (by omega) ⟨v, rfl⟩
    obtain ⟨s4, g1, g2, g3⟩ := (hov c 0 ⟨hc, by decide⟩).2 s3 v3
    obtain ⟨s5, m1, m2, m3⟩ := Mo_mix_is (s := s4) (h := mixes (sv c) 10 (gL s 91 45)) (by rw [g3]; exact e3) (ov c 0).toInt64
    obtain ⟨s6, g4, g5, g6⟩ := (hov c 1 ⟨hc, by decide⟩).2 s5 (m2.trans g2)
    obtain ⟨s7, m4, m5, m6⟩ := Mo_mix_is (s := s6) (h := (31 : Int64) * mixes (sv c) 10 (gL s 91 45) + (ov c 0).toInt64) (by rw [g6]; exact m3) (ov c 1).toInt64
    refine ⟨s7, ?_, m5.trans g5, ?_⟩
    · show Mo_digest_L71 fu K (n + 1) (nI c) s = _
      rw [Mo_digest_L71, vw_gF v (by rfl), hn, if_neg (nI_ge hc (by omega)), hK]
      refine h3.trans ?_
      rw [← hK]
      show (bindP (Mo_oddsNow fu s3 (nI c) (0 : Int32) (2 : Int32) (nI 0)) fun r22 s23 => bindV (Mo_mix s23 r22.toInt64) fun s24 => bindP (Mo_oddsNow fu s24 (nI c) (0 : Int32) (2 : Int32) (nI 1)) fun r25 s26 => bindV (Mo_mix s26 r25.toInt64) fun s27 => Mo_digest_L71 fu K n (nI c + (1 : Int32)) s27) = _
      rw [g1, bindP_some, m1, bindV_some, g4, bindP_some, m4, bindV_some, nI_1]
    · rw [m6, fo_succ, Nat.zero_add, ← e]
      rfl) (by
    rintro n s ⟨v, -⟩
    show Mo_digest_L71 fu K (n + 1) (nI N) s = _
    rw [Mo_digest_L71, vw_gF v (by rfl), hn, if_pos (Int32.le_refl _)]) N fu s0 0 (Nat.zero_add _) (by omega) ⟨v0, h0⟩
  exact ⟨s, v, e, h⟩
theorem dg_page_C {fu P : Nat} (hfu : 1000 ≤ fu) {σ s : Sg} (vs : vw s = vw σ) (hP : gF σ 1 1 = nI P) (h46 : P ≤ 46) (K : Int64 → Int32 → Option (Int64 × Sg)) (a0 : Int64) : Co_digest_L159 fu s K fu a0 (0 : Int32) = K (mixes (gA σ 3) P a0) (nI P) := by
  refine (loop_f0 (N := P) (L := fun n acc i => Co_digest_L159 fu s K n acc i) (kont := K) (f := mx (gA σ 3)) ?_ ?_ P fu a0 0 (Nat.zero_add _) (by omega))
  · intro n acc i hi
    show Co_digest_L159 fu s K (n + 1) acc (nI i) = _
    rw [Co_digest_L159, Pg_size, bindV_some, vw_gF vs (by rfl), hP, if_neg (nI_ge hi (by omega)), Pg_code_is (by omega), bindV_some, Co_mixed, bindV_some, nI_1, vw_gA vs (by rfl)]
    rfl
  · intro n acc
    show Co_digest_L159 fu s K (n + 1) acc (nI P) = _
    rw [Co_digest_L159, Pg_size, bindV_some, vw_gF vs (by rfl), hP, if_pos (Int32.le_refl _)]
theorem dg_count_C {fu : Nat} (hfu : 1000 ≤ fu) {σ s : Sg} (vs : vw s = vw σ) {cv : Nat → Int32} (hcount : ∀ i s, vw s = vw σ → Co_count fu s (nI i) = some (cv i) ∧ Mo_howMany fu s (nI i) = some (cv i)) (K : Int64 → Int32 → Option (Int64 × Sg)) (a0 : Int64) : Co_digest_L192 fu s K fu a0 (0 : Int32) = K (mixes cv 12 a0) (nI 12) := by
  refine (loop_f0 (N := 12) (L := fun n acc i => Co_digest_L192 fu s K n acc i) (kont := K) (f := mx cv) ?_ ?_ 12 fu a0 0 rfl (by omega))
  · intro n acc i hi
    show Co_digest_L192 fu s K (n + 1) acc (nI i) = _
    rw [Co_digest_L192, if_neg (fun z => by have := (nI_ltI (a := 11) (by omega) (by omega)).mp z; omega), (hcount i s vs).1, bindV_some, Co_mixed, bindV_some, nI_1]
    rfl
  · intro n acc
    show Co_digest_L192 fu s K (n + 1) acc (nI 12) = _
    rw [Co_digest_L192, if_pos (by decide)]
theorem dg_page_M {fu P : Nat} (hfu : 1000 ≤ fu) {σ s0 : Sg} (v0 : vw s0 = vw σ) (hP : gF σ 91 17 = nI P) (h46 : P ≤ 46) (K : Int32 → Sg → Option (Int64 × Sg)) (a0 : Int64) (h0 : gL s0 91 45 = a0) : ∃ s', vw s' = vw σ ∧ gL s' 91 45 = mixes (gA σ 101) P a0 ∧ Mo_digest_L138 fu K fu (0 : Int32) s0 = K (nI P) s' := by
  obtain ⟨s4, ⟨v4, g4⟩, e4⟩ := loop_ex (N := P) (L := fun n (s : Sg) i => Mo_digest_L138 fu K n i s) (kont := fun s i => K i s) (fun i s => vw s = vw σ ∧ gL s 91 45 = mixes (gA σ 101) i a0) (by
    rintro n s i hi ⟨v, e⟩
    obtain ⟨s', m1, m2, m3⟩ := Mo_mix_is e (gA σ 101 i).toInt64
    refine ⟨s', ?_, m2.trans v, by rw [m3, mixes_succ]⟩
    show Mo_digest_L138 fu K (n + 1) (nI i) s = _
    rw [Mo_digest_L138, vw_gF v (by rfl), hP, if_neg (nI_ge hi (by omega)), if_pos (inb_nI (by omega) (by decide)), ix_nI (by omega), vw_gA v (by rfl), m1, bindV_some, nI_1]) (by
    rintro n s ⟨v, -⟩
    show Mo_digest_L138 fu K (n + 1) (nI P) s = _
    rw [Mo_digest_L138, vw_gF v (by rfl), hP, if_pos (Int32.le_refl _)]) P fu s0 0 (Nat.zero_add _) (by omega) ⟨v0, h0⟩
  exact ⟨s4, v4, g4, e4⟩
theorem dg_count_M {fu : Nat} (hfu : 1000 ≤ fu) {σ s0 : Sg} (v0 : vw s0 = vw σ) {cv : Nat → Int32} (hcount : ∀ i s, vw s = vw σ → Co_count fu s (nI i) = some (cv i) ∧ Mo_howMany fu s (nI i) = some (cv i)) (K : Int32 → Sg → Option (Int64 × Sg)) (a0 : Int64) (h0 : gL s0 91 45 = a0) : ∃ s', vw s' = vw σ ∧ gL s' 91 45 = mixes cv 12 a0 ∧ Mo_digest_L165 fu K fu (0 : Int32) s0 = K (nI 12) s' := by
  obtain ⟨s5, ⟨v5, g5⟩, e5⟩ := loop_ex (N := 12) (L := fun n (s : Sg) i => Mo_digest_L165 fu K n i s) (kont := fun s i => K i s) (fun i s => vw s = vw σ ∧ gL s 91 45 = mixes cv i a0) (by
    rintro n s i hi ⟨v, e⟩
    obtain ⟨s', m1, m2, m3⟩ := Mo_mix_is e (cv i).toInt64
    refine ⟨s', ?_, m2.trans v, by rw [m3, mixes_succ]⟩
    show Mo_digest_L165 fu K (n + 1) (nI i) s = _
    rw [Mo_digest_L165, if_neg (fun z => by have := (nI_leI (a := 12) (by omega) (by omega)).mp z; omega), (hcount i s v).2, bindV_some, m1, bindV_some, nI_1]) (by
    rintro n s -
    show Mo_digest_L165 fu K (n + 1) (nI 12) s = _
    rw [Mo_digest_L165, if_pos (by decide)]) 12 fu s0 0 rfl (by omega) ⟨v0, h0⟩
  exact ⟨s5, v5, g5, e5⟩
theorem op_digest {t fu : Nat} (hfu : 2000 ≤ fu) {σ : Sg} (h : Inv t σ) : opL t (Co_digest fu σ) (fun s => Mo_digest fu s) := by
  have hI : Inv (t + 1) σ := h.mono (by omega)
  have h' := h
  obtain ⟨N, T, R, ⟨n1, n2, t1, t2, n7, t3, -⟩, -, -, -, ⟨⟨P, p1, p2, p3, -⟩, p5⟩, -⟩ := h'
  obtain ⟨tv, htv⟩ := pick2 (Q := fun u w => u < T ∧ w < 3) (P := fun u w v => ∀ s, vw s = vw σ → Co_tree fu s (nI u) (nI w) = some v ∧ Mo_treeNow fu s (nI u) (nI w) = some v) (fun u w q => tree_dg (by omega) h t1 t3 q.1 q.2)
  obtain ⟨gv, hgv⟩ := pick2 (Q := fun u w => u < T ∧ w < 2) (P := fun u w v => (∀ s, vw s = vw σ → ∃ s', Co_game fu s (nI u) (nI w) = some (v, s') ∧ vw s' = vw σ) ∧ ∀ s, vw s = vw σ → ∃ s', Mo_gameNow fu s (nI u) (nI w) = some (v, s') ∧ vw s' = vw σ ∧ gL s' = gL s) (fun u w q => game_dg (by omega) h t1 t3 q.1 q.2)
  obtain ⟨sv, hsv⟩ := pick2 (Q := fun c w => c < N ∧ w < 10) (P := fun c w v => ∀ s, vw s = vw σ → Co_suit fu s (nI c) (nI w) = some v ∧ Mo_suitNow fu s (nI c) (nI w) = some (v, s)) (fun c w q => suit_dg (by omega) h n1 n7 q.1 q.2)
  obtain ⟨ov, hov⟩ := pick2 (Q := fun c w => c < N ∧ w < 2) (P := fun c w v => (∀ s, vw s = vw σ → Co_odds fu s (nI c) 0 2 (nI w) = some v) ∧ ∀ s, vw s = vw σ → ∃ s', Mo_oddsNow fu s (nI c) 0 2 (nI w) = some (v, s') ∧ vw s' = vw σ ∧ gL s' = gL s) (fun c w q => odds_dg hfu h n1 n7 q.1 q.2)
  obtain ⟨cv0, hcv0⟩ := pick2 (Q := fun _ _ => True) (P := fun i _ v => ∀ s, vw s = vw σ → Co_count fu s (nI i) = some v ∧ Mo_howMany fu s (nI i) = some v) (fun i _ _ => count_dg (by omega) h (nI i))
  have hcount : ∀ i s, vw s = vw σ → Co_count fu s (nI i) = some ((fun i => cv0 i 0) i) ∧ Mo_howMany fu s (nI i) = some ((fun i => cv0 i 0) i) := fun i s vs => hcv0 i 0 trivial s vs
  generalize (fun i => cv0 i 0) = cv at hcount
  obtain ⟨s1, v1, e1⟩ := dg_trees_C (fu := fu) (by omega) t1 t3 htv hgv (fun l1_15 l3_16 s17 => Co_digest_L81 fu s17 (fun l1_30 l3_31 => Co_digest_L159 fu s17 (fun l1_36 l3_37 => Co_digest_L192 fu s17 (fun l1_41 l3_42 => some (l1_41, s17)) fu l1_36 (0 : Int32)) fu l1_30 (0 : Int32)) fu l1_15 (0 : Int32)) 1229
  obtain ⟨X1, hX1⟩ : ∃ x, fo (dgT tv gv) T 0 1229 = x := ⟨_, rfl⟩
  rw [hX1] at e1
  have eC : Co_digest fu σ = some (mixes cv 12 (mixes (gA σ 3) P (fo (dgS sv ov) N 0 X1)), s1) := by
    rw [Co_digest, e1]
    show Co_digest_L81 fu s1 _ fu X1 (0 : Int32) = _
    rw [dg_suits_C (by omega) v1 n1 n7 hsv hov]
    show Co_digest_L159 fu s1 _ fu _ (0 : Int32) = _
    rw [dg_page_C (by omega) v1 p1 p3]
    show Co_digest_L192 fu s1 _ fu _ (0 : Int32) = _
    rw [dg_count_C (by omega) v1 hcount]
  have v1' : vw (sL s1 91 45 1229) = vw σ := by rw [vw_sL]; exact v1
  obtain ⟨s2, v2, g2, e2⟩ := dg_trees_M (fu := fu) (by omega) t2 t3 htv hgv (fun l1_13 s14 => Mo_digest_L71 fu (fun l1_28 s29 => Mo_digest_L138 fu (fun l1_32 s33 => Mo_digest_L165 fu (fun l1_37 s38 => some (gL s38 91 45, s38)) fu (0 : Int32) s33) fu (0 : Int32) s29) fu (0 : Int32) s14) 1229 (sL s1 91 45 1229) v1' (gL_sL1 s1 91 45 1229)
  rw [hX1] at g2
  obtain ⟨s3, v3, g3, e3⟩ := dg_suits_M (fu := fu) (by omega) n2 n7 hsv hov (fun l1_28 s29 => Mo_digest_L138 fu (fun l1_32 s33 => Mo_digest_L165 fu (fun l1_37 s38 => some (gL s38 91 45, s38)) fu (0 : Int32) s33) fu (0 : Int32) s29) X1 s2 v2 g2
  obtain ⟨s4, v4, g4, e4⟩ := dg_page_M (fu := fu) (by omega) v3 p2 p3 (fun l1_32 s33 => Mo_digest_L165 fu (fun l1_37 s38 => some (gL s38 91 45, s38)) fu (0 : Int32) s33) _ g3
  obtain ⟨s5, v5, g5, e5⟩ := dg_count_M (fu := fu) (by omega) v4 hcount (fun l1_37 s38 => some (gL s38 91 45, s38)) _ g4
  refine ⟨_, s1, s5, eC, ?_, hI.of_vw v5⟩
  show Mo_digest fu s1 = _
  rw [Mo_digest, e2]
  show Mo_digest_L71 fu _ fu (0 : Int32) s2 = _
  rw [e3]
  show Mo_digest_L138 fu _ fu (0 : Int32) s3 = _
  rw [e4]
  show Mo_digest_L165 fu _ fu (0 : Int32) s4 = _
  rw [e5, p5]
  show some (gL s5 91 45, s5) = _
  rw [g5]
