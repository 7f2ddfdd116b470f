/-! THE DIGEST: what each question answers, on both sides -/
theorem pick2 {Q : Nat → Nat → Prop} {P : Nat → Nat → Int32 → Prop} (h : ∀ u w, Q u w → ∃ v, P u w v) : ∃ f : Nat → Nat → Int32, ∀ u w, Q u w → P u w (f u w) := by
  classical
  refine ⟨fun u w => if hq : ∃ v, P u w v then hq.choose else 0, fun u w hq => ?_⟩
  have e := h u w hq
  show P u w (if hq : ∃ v, P u w v then hq.choose else 0)
  rw [dif_pos e]
  exact e.choose_spec
theorem tree_dg {t fu : Nat} (hfu : 1000 ≤ fu) {σ : Sg} (h : Inv t σ) {T : Nat} (ht : gF σ 5 0 = nI T) (hT3 : T ≤ 3) {u w : Nat} (hu : u < T) (hw : w < 3) : ∃ v, ∀ s, vw s = vw σ → Co_tree fu s (nI u) (nI w) = some v ∧ Mo_treeNow fu s (nI u) (nI w) = some v := by
  have hb : b2 (!decide (nI w < 0) && !decide (2 < nI w)) = 1 := by
    have h2 : ¬ (2 : Int32) < nI w := fun z => by have := (nI_ltI (a := 2) (by omega) (by omega)).mp z; omega
    simp [nI_pos (show w < 2147483648 by omega), h2, b2]
  have key : ∀ s, vw s = vw σ → ∃ r, Co_tree fu s (nI u) (nI w) = some r ∧ Mo_treeNow fu s (nI u) (nI w) = some r := by
    intro s v
    have hs : Inv t s := h.of_vw v
    obtain ⟨r, e1, e2⟩ := op_tree (fu := fu) hfu hs (nI u) (nI w)
    obtain ⟨N, T', R, ⟨n1, n2, t1, t2, n7, t3, -⟩, -⟩ := hs
    have hTT : T' = T := by
      rw [vw_gF v (by rfl), ht, nI_eq (by omega) (by omega)] at t1
      exact t1.symm
    subst hTT
    rw [Mo_tree, isTree_in t2 t3 hu, bindV_some, if_pos (by decide), within_is, bindV_some, hb, if_neg (by decide), Mo_treeNow_is (T := T') n2 n7 hfu (by omega), bindV_some] at e2
    exact ⟨r, e1, by rw [Mo_treeNow_is (T := T') n2 n7 hfu (by omega)]; exact e2⟩
  obtain ⟨v, -, hv⟩ := key σ rfl
  refine ⟨v, fun s vs => ?_⟩
  obtain ⟨r, e1, e2⟩ := key s vs
  obtain ⟨N, T', R, ⟨n1, n2, t1, t2, n7, t3, -⟩, -⟩ := h
  have e3 : Mo_treeNow fu s (nI u) (nI w) = Mo_treeNow fu σ (nI u) (nI w) := by
    rw [Mo_treeNow_is (σ := s) (T := T') (N := N) (by rw [vw_gF vs (by rfl)]; exact n2) n7 hfu (by omega), Mo_treeNow_is (σ := σ) (T := T') (N := N) n2 n7 hfu (by omega), vw_gA (k := 92) vs (by rfl), vw_gA (k := 93) vs (by rfl), vw_gA (k := 94) vs (by rfl), vw_gA (k := 95) vs (by rfl), vw_gA (k := 97) vs (by rfl), vw_gF (k := 91) (j := 9) vs (by rfl)]
  have er : r = v := by rw [e3, hv] at e2; exact (Option.some.inj e2).symm
  rw [er] at e1 e2
  exact ⟨e1, e2⟩
theorem game_dg {t fu : Nat} (hfu : 1000 ≤ fu) {σ : Sg} (h : Inv t σ) {T : Nat} (ht : gF σ 5 0 = nI T) (hT3 : T ≤ 3) {u w : Nat} (hu : u < T) (hw : w < 2) : ∃ v, (∀ s, vw s = vw σ → ∃ s', Co_game fu s (nI u) (nI w) = some (v, s') ∧ vw s' = vw σ) ∧ ∀ s, vw s = vw σ → ∃ s', Mo_gameNow fu s (nI u) (nI w) = some (v, s') ∧ vw s' = vw σ ∧ gL s' = gL s := by
  have hw' : nI w = 0 ∨ nI w = 1 := by
    rcases (by omega : w = 0 ∨ w = 1) with rfl | rfl
    · exact Or.inl rfl
    · exact Or.inr rfl
  obtain ⟨v, σ1, e1, v1, hm⟩ := game_is hfu h ht hT3 hu hw'
  refine ⟨v, fun s vs => ?_, fun s vs => ?_⟩
  · obtain ⟨r, s1, f1, w1, hm1⟩ := game_is hfu (h.of_vw vs) (T := T) (by rw [vw_gF vs (by rfl)]; exact ht) hT3 hu hw'
    obtain ⟨x, ex, -⟩ := hm σ rfl
    obtain ⟨y, ey, -⟩ := hm1 σ vs.symm
    rw [ex] at ey
    have er := (Prod.mk.inj (Option.some.inj ey)).1
    rw [← er] at f1
    exact ⟨s1, f1, w1.trans vs⟩
  · obtain ⟨x, ex, vx', gx⟩ := hm s vs
    exact ⟨x, ex, vx'.trans vs, gx⟩
def needV (ki su be en : Nat → Int32) (st : Int32) (S c : Nat) : Int32 := needS (fun i => allB (okP su be en c (costS (ki c) (nI i) st)) S 0)
def SV (ki ne wo ha su be en : Nat → Int32) (r : Int32) (N S c w : Nat) : Int32 := if w = 0 then ki c else if w = 1 then ne c else if w = 2 then wo c else if w = 3 then ha c else if w = 4 then costS (ki c) (ne c) (strS ha N c) else if w = 5 then b2 (hasX r (nI c)) else if w = 6 then allS ha N c else if w = 7 then sizeS (allS ha N c &&& r) else if w = 8 then needV ki su be en (strS ha N c) S c else if needV ki su be en (strS ha N c) S c = 0 then -1 else (tryS (fun i => costS (ki c) (nI i) (strS ha N c)) (needV ki su be en (strS ha N c) S c)).1
theorem Mo_suitNow_val {s : Sg} {N S fu c w : Nat} (hN : gF s 91 2 = nI N) (hN7 : N ≤ 7) (hS : gF s 91 13 = nI S) (hS8 : S ≤ 8) (hfu : 1000 ≤ fu) (hc : c < N) (hw : w < 10) : Mo_suitNow fu s (nI c) (nI w) = some (SV (gA s 94) (gA s 95) (gA s 96) (gA s 97) (gA s 98) (gA s 99) (gA s 100) (gF s 91 9) N S c w, s) := by
  have hin : inb (nI c) 7 = true := inb_nI (by omega) (by decide)
  have hix : ix (nI c) = c := ix_nI (by omega)
  have hneeds := Mo_needsOf_is (σ := s) hN hN7 hS hS8 hfu (show c < 7 by omega)
  obtain ⟨mm, mm1, mm2⟩ := needS_rng (fun i => allB (okP (gA s 98) (gA s 99) (gA s 100) c (costS (gA s 94 c) (nI i) (strS (gA s 97) N c))) S 0)
  have hneeds' := hneeds
  rw [mm1] at hneeds'
  have htry := Mo_tryFor_is (σ := s) hN hN7 hfu (show c < 7 by omega) mm2 hneeds'
  rw [← mm1] at htry
  rw [Mo_suitNow]
  simp only [hin, if_true, hix]
  rcases (by omega : w = 0 ∨ w = 1 ∨ w = 2 ∨ w = 3 ∨ w = 4 ∨ w = 5 ∨ w = 6 ∨ w = 7 ∨ w = 8 ∨ w = 9) with rfl | rfl | rfl | rfl | rfl | rfl | rfl | rfl | rfl | rfl
  · rw [if_pos (by decide)]; rfl
  · rw [if_neg (by decide), if_pos (by decide)]; rfl
  · rw [if_neg (by decide), if_neg (by decide), if_pos (by decide)]; rfl
  · rw [if_neg (by decide), if_neg (by decide), if_neg (by decide), if_pos (by decide)]; rfl
  · rw [if_neg (by decide), if_neg (by decide), if_neg (by decide), if_neg (by decide), if_pos (by decide), Mo_cost_is hN hN7 hfu (by omega), bindV_some]; rfl
  · rw [if_neg (by decide), if_neg (by decide), if_neg (by decide), if_neg (by decide), if_neg (by decide), if_pos (by decide), Mo_isIn_is, bindV_some]
    show _ = some (b2 (hasX (gF s 91 9) (nI c)), s)
    cases hasX (gF s 91 9) (nI c) <;> rfl
  · rw [if_neg (by decide), if_neg (by decide), if_neg (by decide), if_neg (by decide), if_neg (by decide), if_neg (by decide), if_pos (by decide), Mo_allOn_is hN hN7 hfu hc, bindV_some]; rfl
  · rw [if_neg (by decide), if_neg (by decide), if_neg (by decide), if_neg (by decide), if_neg (by decide), if_neg (by decide), if_neg (by decide), if_pos (by decide), Mo_allOn_is hN hN7 hfu hc, bindV_some, Mo_size_is hfu, bindV_some]; rfl
  · rw [if_neg (by decide), if_neg (by decide), if_neg (by decide), if_neg (by decide), if_neg (by decide), if_neg (by decide), if_neg (by decide), if_neg (by decide), if_pos (by decide), hneeds, bindP_some]; rfl
  · rw [if_neg (by decide), if_neg (by decide), if_neg (by decide), if_neg (by decide), if_neg (by decide), if_neg (by decide), if_neg (by decide), if_neg (by decide), if_neg (by decide), htry, bindP_some]; rfl
theorem suit_dg {t fu : Nat} (hfu : 1000 ≤ fu) {σ : Sg} (h : Inv t σ) {N : Nat} (hn : gF σ 5 1 = nI N) (hN7 : N ≤ 7) {c w : Nat} (hc : c < N) (hw : w < 10) : ∃ v, ∀ s, vw s = vw σ → Co_suit fu s (nI c) (nI w) = some v ∧ Mo_suitNow fu s (nI c) (nI w) = some (v, s) := by
  have h' := h
  obtain ⟨N', T, R, ⟨n1, n2, t1, t2, n7, t3, -⟩, -, -, ⟨⟨S, -, s2, s3⟩, -⟩, -⟩ := h'
  have hNN : N' = N := by
    rw [hn, nI_eq (by omega) (by omega)] at n1
    exact n1.symm
  subst hNN
  refine ⟨SV (gA σ 94) (gA σ 95) (gA σ 96) (gA σ 97) (gA σ 98) (gA σ 99) (gA σ 100) (gF σ 91 9) N' S c w, fun s vs => ?_⟩
  have e := Mo_suitNow_val (s := s) (N := N') (S := S) (fu := fu) (by rw [vw_gF vs (by rfl)]; exact n2) n7 (by rw [vw_gF vs (by rfl)]; exact s2) s3 hfu hc hw
  rw [vw_gA (k := 94) vs (by rfl), vw_gA (k := 95) vs (by rfl), vw_gA (k := 96) vs (by rfl), vw_gA (k := 97) vs (by rfl), vw_gA (k := 98) vs (by rfl), vw_gA (k := 99) vs (by rfl), vw_gA (k := 100) vs (by rfl), vw_gF (k := 91) (j := 9) vs (by rfl)] at e
  obtain ⟨r, r1, r2⟩ := suit_is hfu (h.of_vw vs) (by rw [vw_gF vs (by rfl)]; exact hn) hc n7 hw
  rw [e] at r2
  have er := (Prod.mk.inj (Option.some.inj r2)).1
  rw [← er] at r1
  exact ⟨r1, e⟩
theorem odds_dg {t fu : Nat} (hfu : 2000 ≤ fu) {σ : Sg} (h : Inv t σ) {N : Nat} (hn : gF σ 5 1 = nI N) (hN7 : N ≤ 7) {c w : Nat} (hc : c < N) (hw : w < 2) : ∃ v, (∀ s, vw s = vw σ → Co_odds fu s (nI c) 0 2 (nI w) = some v) ∧ ∀ s, vw s = vw σ → ∃ s', Mo_oddsNow fu s (nI c) 0 2 (nI w) = some (v, s') ∧ vw s' = vw σ ∧ gL s' = gL s := by
  have hw' : nI w = 0 ∨ nI w = 1 := by
    rcases (by omega : w = 0 ∨ w = 1) with rfl | rfl
    · exact Or.inl rfl
    · exact Or.inr rfl
  have h' := h
  obtain ⟨N', T, R, ⟨n1, n2, t1, t2, n7, t3, -, -, -, r4, r5⟩, -⟩ := h'
  have hNN : N' = N := by
    rw [hn, nI_eq (by omega) (by omega)] at n1
    exact n1.symm
  subst hNN
  have hT : 0 < T := by
    by_cases hR : R = 0
    · have := (r4 hR).1; omega
    · exact (r5 (by omega)).2
  have base : ∀ s, vw s = vw σ → ∃ r, Co_odds fu s (nI c) (nI 0) (nI 2) (nI w) = some r ∧ ∀ s', vw s' = vw s → ∃ s2, Mo_oddsNow fu s' (nI c) (nI 0) (nI 2) (nI w) = some (r, s2) ∧ vw s2 = vw s' ∧ gL s2 = gL s' := fun s vs =>
    odds_is hfu (h.of_vw vs) (N := N') (T := T) (by rw [vw_gF vs (by rfl)]; exact n1) n7 (by rw [vw_gF vs (by rfl)]; exact t1) t3 hc hT (by decide) (by decide) hw'
  obtain ⟨v, e1, hm⟩ := base σ rfl
  refine ⟨v, fun s vs => ?_, fun s vs => ?_⟩
  · obtain ⟨r, f1, hm1⟩ := base s vs
    obtain ⟨x, ex, -⟩ := hm σ rfl
    obtain ⟨y, ey, -⟩ := hm1 σ vs.symm
    rw [ex] at ey
    have er := (Prod.mk.inj (Option.some.inj ey)).1
    rw [← er] at f1
    exact f1
  · obtain ⟨x, ex, vx', gx⟩ := hm s vs
    exact ⟨x, ex, vx'.trans vs, gx⟩
theorem count_dg {t fu : Nat} (hfu : 1000 ≤ fu) {σ : Sg} (h : Inv t σ) (a : Int32) : ∃ v, ∀ s, vw s = vw σ → Co_count fu s a = some v ∧ Mo_howMany fu s a = some v := by
  have hsame : ∀ s, vw s = vw σ → Mo_howMany fu s a = Mo_howMany fu σ a := by
    intro s vs
    obtain ⟨N, T, R, ⟨n1, n2, t1, t2, n7, t3, -⟩, -⟩ := h
    have n2s : gF s 91 2 = nI N := by rw [vw_gF vs (by rfl)]; exact n2
    have t2s : gF s 91 1 = nI T := by rw [vw_gF vs (by rfl)]; exact t2
    have o0 : ∀ s', gF s' 91 2 = nI N → gF s' 91 1 = nI T → Mo_ofTrees fu s' 0 = some (sumS (gA s' 92) T) := fun s' q1 q2 => Mo_ofTrees_is q1 n7 q2 t3 hfu (f := gA s' 92) (fun i hi => by rw [Mo_treeNow_is (T := T) q1 n7 hfu hi, if_pos rfl])
    have o1 : ∀ s', gF s' 91 2 = nI N → gF s' 91 1 = nI T → Mo_ofTrees fu s' 1 = some (sumS (gA s' 93) T) := fun s' q1 q2 => Mo_ofTrees_is q1 n7 q2 t3 hfu (f := gA s' 93) (fun i hi => by rw [Mo_treeNow_is (T := T) q1 n7 hfu hi, if_neg (by decide), if_pos rfl])
    have w0 : Mo_ofTrees fu s 0 = Mo_ofTrees fu σ 0 := by rw [o0 s n2s t2s, o0 σ n2 t2, vw_gA vs (by rfl)]
    have w1 : Mo_ofTrees fu s 1 = Mo_ofTrees fu σ 1 := by rw [o1 s n2s t2s, o1 σ n2 t2, vw_gA vs (by rfl)]
    have w2 : ∀ b, Mo_worthIn fu s b = Mo_worthIn fu σ b := fun b => by rw [Mo_worthIn_is n2s n7 hfu, Mo_worthIn_is n2 n7 hfu, vw_gA vs (by rfl)]
    rw [Mo_howMany, Mo_howMany, vw_gF (k := 91) (j := 1) vs (by rfl), vw_gF (k := 91) (j := 2) vs (by rfl), vw_gF (k := 91) (j := 9) vs (by rfl), vw_gF (k := 91) (j := 11) vs (by rfl), vw_gF (k := 91) (j := 10) vs (by rfl), vw_gF (k := 91) (j := 13) vs (by rfl), vw_gF (k := 91) (j := 17) vs (by rfl), vw_gF (k := 91) (j := 0) vs (by rfl), vw_gF (k := 91) (j := 12) vs (by rfl), w2]
    by_cases q2 : a = 2
    · subst q2; rw [show (2 : Int32) - 2 = 0 from rfl, w0]
    · by_cases q3 : a = 3
      · subst q3; rw [show (3 : Int32) - 2 = 1 from rfl, w1]
      · simp only [q2, q3, if_false]
  obtain ⟨v, -, hv⟩ := count_is hfu h a
  refine ⟨v, fun s vs => ?_⟩
  obtain ⟨r, r1, r2⟩ := count_is hfu (h.of_vw vs) a
  have e := hsame s vs
  rw [r2, hv] at e
  have er := Option.some.inj e
  rw [er] at r1 r2
  exact ⟨r1, r2⟩
