/-! THE PLAN: the class's search -/
def opA (σ : Sg) (i : Nat) (r : Int32) : Bool := openS (gA σ 11) (gA σ 17) r i
def repC (s : Sg) (N : Nat) (B : Option (Int32 × Int32 × (Nat → Nat))) : Prop := match B with
  | none => gF s 54 4 = -1
  | some (h, p, row) => gF s 54 4 = h ∧ gF s 54 5 = p ∧ ∀ i, i < N → gA s 60 i = nI (row i) - 1
theorem repC_of {s s' : Sg} {N : Nat} {B : Option (Int32 × Int32 × (Nat → Nat))} (h1 : gF s' 54 4 = gF s 54 4) (h2 : gF s' 54 5 = gF s 54 5) (h3 : gA s' 60 = gA s 60) (h : repC s N B) : repC s' N B := by
  cases B with
  | none => exact h1.trans h
  | some x =>
    obtain ⟨g, p, row⟩ := x
    obtain ⟨q1, q2, q3⟩ := h
    exact ⟨h1.trans q1, h2.trans q2, fun i hi => by rw [h3]; exact q3 i hi⟩
def CR (σ s : Sg) (N T : Nat) (l : Nat → Int32) (B : Option (Int32 × Int32 × (Nat → Nat))) : Prop := vw s = vw σ ∧ (∀ u, u < T → gA s 56 u = l u) ∧ repC s N B
theorem gF_cpA (σ : Sg) (d q n a b : Nat) : gF (cpA σ d q n) a b = gF σ a b := rfl
theorem vw_cpA {σ : Sg} {d q n : Nat} (h : relA d = false) : vw (cpA σ d q n) = vw σ := by
  refine Prod.ext rfl (Prod.ext ?_ rfl)
  funext a b
  show (if relA a = true then (if a = d ∧ b < n then σ.2.1 q b else σ.2.1 a b) else 0) = if relA a = true then σ.2.1 a b else 0
  by_cases hr : relA a = true
  · rw [if_pos hr, if_pos hr, if_neg]
    rintro ⟨rfl, -⟩
    rw [h] at hr
    cases hr
  · rw [if_neg hr, if_neg hr]
theorem canBe_is {σ s : Sg} {N fu i : Nat} {B : Option (Int32 × Int32 × (Nat → Nat))} {co bl : Nat → Int32} (hfu : 1000 ≤ fu) (g : PG co bl (gA σ 15) N) (hn : gF σ 5 1 = nI N) (v : vw s = vw σ) (hB : repC s N B) (hi : i ≤ N) (r sp : Int32) : Pl_canBeBetter fu s (nI i) r sp = some (b2 (btr B (top (gA σ 15) N i r) sp)) := by
  have ew : Sh_worthOf fu s 5 (r ||| -bitI i) = some (top (gA σ 15) N i r) := by
    rw [worthOf5 (N := N) (by rw [vw_gF v (by rfl)]; exact hn) g.1 hfu, vw_gA v (by rfl)]
    rfl
  rw [Pl_canBeBetter, Co_bit_is, bindV_some, ew, bindV_some]
  cases B with
  | none =>
    obtain ⟨p, q, e1, e2, e3, e4⟩ := worth_mono (a := r ||| -bitI i) (b := r ||| -bitI i) g.1 g.2.2.1 (fun _ _ z => z)
    have h4 : gF s 54 4 = -1 := hB
    have hlt : gF s 54 4 < top (gA σ 15) N i r := by
      rw [h4, top, e1, Int32.lt_iff_toInt_lt, nI_toInt (by omega), show ((-1 : Int32)).toInt = -1 by decide]
      omega
    rw [if_pos hlt]
    rfl
  | some x =>
    obtain ⟨h, p, row⟩ := x
    obtain ⟨h4, h5, -⟩ := hB
    generalize top (gA σ 15) N i r = w
    rw [h4, h5]
    show _ = some (b2 (decide (h < w) || (decide (h = w) && decide (sp < p))))
    by_cases q1 : h < w
    · rw [if_pos q1]; simp [q1, b2]
    · rw [if_neg q1]
      by_cases q2 : w = h
      · rw [if_neg (fun z => z q2)]
        by_cases q3 : p ≤ sp
        · have : ¬ sp < p := Int32.not_lt.mpr q3
          rw [if_pos q3]; simp [q1, this, b2]
        · have : sp < p := Int32.not_le.mp q3
          rw [if_neg q3]; simp [q2, this, b2]
      · rw [if_pos q2]
        have : ¬ h = w := fun z => q2 z.symm
        simp [q1, this, b2]
theorem placeFrom_is {σ : Sg} {N T fu : Nat} (hfu : 1000 ≤ fu) (g : PG (coA σ) (gA σ 21) (gA σ 15) N) (hn : gF σ 5 1 = nI N) (ht : gF σ 5 0 = nI T) (hT3 : T ≤ 3) :
    ∀ m rd i (s : Sg) (a : PS) (row : Nat → Nat) (B : Option (Int32 × Int32 × (Nat → Nat))) q, i + m = N → m < rd → CR σ s N T a.l B → (∀ j, j < i → gA s 58 j = nI (row j) - 1) → a.s = nI q → q ≤ 18 * i → ∃ s', Pl_placeFrom fu rd s (nI i) a.r a.s = some s' ∧ CR σ s' N T a.l (EE (opA σ) (coA σ) (gA σ 21) (gA σ 15) N T m i (some a) row B) ∧ ∀ j, j < i → gA s' 58 j = nI (row j) - 1 := by
  have hN7 := g.1
  intro m
  induction m with
  | zero =>
    intro rd i s a row B q hi hrd ⟨v, hl, hB⟩ hpl hs hq
    have hiN : i = N := by omega
    subst hiN
    obtain ⟨rd, rfl⟩ : ∃ k, rd = k + 1 := ⟨rd - 1, by omega⟩
    have n5 : gF s 5 1 = nI i := by rw [vw_gF v (by rfl)]; exact hn
    rw [Pl_placeFrom, canBe_is hfu g hn v hB (Nat.le_refl i), bindV_some, top_leaf g]
    show ∃ s', _ ∧ CR σ s' i T a.l (upB B (worthS (gA σ 15) i a.r) a.s row) ∧ _
    cases hb : btr B (worthS (gA σ 15) i a.r) a.s with
    | false =>
      rw [if_neg (fun z => z rfl), upB, hb, ifF]
      exact ⟨s, rfl, ⟨v, hl, hB⟩, hpl⟩
    | true =>
      rw [if_pos (by decide), upB, hb, ifT, Sh_suits, bindV_some, n5, if_neg (fun z => by have := (nI_ltI (by omega) (by omega)).mp z; omega), worthOf5 n5 hN7 hfu, bindV_some, vw_gA v (by rfl), Rw_copyFrom_is (n := 7) rfl rfl (by decide) (by decide) hfu, bindV_some]
      refine ⟨_, rfl, ⟨by rw [vw_cpA (by rfl), vw_sF (by rfl), vw_sF (by rfl)]; exact v, fun u hu => ?_, ?_⟩, fun j hj => ?_⟩
      · rw [gA_cpA, if_neg (by omega)]; exact hl u hu
      · refine ⟨?_, ?_, fun j hj => ?_⟩
        · rw [gF_cpA, gF_sF, if_neg (by decide), gF_sF, if_pos (And.intro rfl rfl)]
        · rw [gF_cpA, gF_sF, if_pos (And.intro rfl rfl)]
        · rw [gA_cpA, if_pos ⟨rfl, by omega⟩]; exact hpl j hj
      · rw [gA_cpA, if_neg (by omega)]; exact hpl j hj
  | succ m ih =>
    intro rd i s a row B q hi hrd hC hpl hs hq
    obtain ⟨v, hl, hB⟩ := hC
    obtain ⟨rd, rfl⟩ : ∃ k, rd = k + 1 := ⟨rd - 1, by omega⟩
    have n5 : gF s 5 1 = nI N := by rw [vw_gF v (by rfl)]; exact hn
    rw [Pl_placeFrom, canBe_is hfu g hn v hB (by omega), bindV_some]
    cases hb : btr B (top (gA σ 15) N i a.r) a.s with
    | false =>
      rw [if_neg (fun z => z rfl), EE_cut g (m + 1) i a row B q hi hs hq hb]
      exact ⟨s, rfl, ⟨v, hl, hB⟩, hpl⟩
    | true =>
      rw [if_pos (by decide), Sh_suits, bindV_some, n5, if_pos ((nI_ltI (by omega) (by omega)).mpr (by omega)), Rw_put_in (n := 7) rfl (by omega) (by decide), bindV_some, nI_1]
      -- none first
      obtain ⟨s6, e6, ⟨v6, l6, b6⟩, p6⟩ := ih rd (i + 1) (sA s 58 i (-1)) a (setR row i 0) B q (by omega) (by omega) ⟨by rw [vw_sA (by rfl)]; exact v, fun u hu => by rw [gA_sA_other (by decide)]; exact hl u hu, repC_of rfl rfl (gA_sA_other (by decide)) hB⟩ (fun j hj => by
        rw [gA_sA_same]
        show (if j = i then (-1 : Int32) else gA s 58 j) = nI (if j = i then 0 else row j) - 1
        by_cases qj : j = i
        · rw [if_pos qj, if_pos qj]; rfl
        · rw [if_neg qj, if_neg qj]; exact hpl j (by omega)) hs (by omega)
      have e6' : Pl_placeFrom fu rd (sA s (57 + 1) i (-1)) (nI (i + 1)) a.r a.s = some s6 := e6
      rw [e6', bindV_some, isOpen5 (by omega), bindV_some, vw_gA v6 (by rfl), vw_gA v6 (by rfl)]
      have eE : EE (opA σ) (coA σ) (gA σ 21) (gA σ 15) N T (m + 1) i (some a) row B = fo (fun d B => EE (opA σ) (coA σ) (gA σ 21) (gA σ 15) N T m (i + 1) (stJ (opA σ) (coA σ) (gA σ 21) i d a) (setR row i d) B) T 1 (EE (opA σ) (coA σ) (gA σ 21) (gA σ 15) N T m (i + 1) (some a) (setR row i 0) B) := rfl
      rw [eE]
      generalize EE (opA σ) (coA σ) (gA σ 21) (gA σ 15) N T m (i + 1) (some a) (setR row i 0) B = B1 at b6
      have p6' : ∀ j, j < i → gA s6 58 j = nI (row j) - 1 := fun j hj => by
        rw [p6 j (by omega), setR, if_neg (by omega)]
      cases ho : openS (gA σ 11) (gA σ 17) a.r i with
      | false =>
        have hno : ∀ d, d ≠ 0 → stJ (opA σ) (coA σ) (gA σ 21) i d a = none := fun d hd => by
          rw [stJ, if_neg hd, if_neg]
          rintro ⟨z, -⟩
          rw [opA, ho] at z
          cases z
        have hsame : fo (fun d B => EE (opA σ) (coA σ) (gA σ 21) (gA σ 15) N T m (i + 1) (stJ (opA σ) (coA σ) (gA σ 21) i d a) (setR row i d) B) T 1 B1 = B1 := (fo_inv (fun k b => 1 ≤ k ∧ b = B1) T 1 B1 ⟨Nat.le_refl 1, rfl⟩ (fun d b h1 h2 hb => by
          refine ⟨by omega, ?_⟩
          show EE _ _ _ _ _ _ m (i + 1) (stJ (opA σ) (coA σ) (gA σ 21) i d a) _ b = B1
          rw [hno d (by omega), EE_none]
          exact hb.2)).2
        rw [if_pos (by rfl), hsame]
        exact ⟨s6, rfl, ⟨v6, l6, b6⟩, p6'⟩
      | true =>
        have n6 : gF s6 5 0 = nI T := by rw [vw_gF v6 (by rfl)]; exact ht
        have eco : ∀ s', vw s' = vw σ → Sh_cost s' 5 (nI i) = some (coA σ i) := fun s' v' => by rw [cost5 (by omega), vw_gA v' (by rfl), vw_gA v' (by rfl), vw_gA v' (by rfl), coA]
        have erb : Sh_rightedBehind s6 5 (nI i) a.r = some ((a.r ||| bitI i) &&& (gA σ 21 i ^^^ (-1))) := by
          rw [Sh_rightedBehind, Co_bit_is, bindV_some, at_bl5 (by omega), bindV_some, vw_gA v6 (by rfl)]
        rw [if_neg (by decide), erb, bindV_some, eco s6 v6, bindV_some, Pl_placeAtEachTree, eco s6 v6, bindV_some]
        obtain ⟨s11, ⟨⟨v11, l11, b11⟩, p11⟩, e11⟩ := loop_ex (N := T) (L := fun n (s : Sg) u => Pl_placeAtEachTree_L13 fu (Pl_placeFrom fu rd) (nI i) ((a.r ||| bitI i) &&& (gA σ 21 i ^^^ (-1))) (a.s + coA σ i) (coA σ i) (fun l5_10 s11 => some s11) n u s) (kont := fun s _ => some s) (fun u s => CR σ s N T a.l (fo (fun d B => EE (opA σ) (coA σ) (gA σ 21) (gA σ 15) N T m (i + 1) (stJ (opA σ) (coA σ) (gA σ 21) i d a) (setR row i d) B) u 1 B1) ∧ ∀ j, j < i → gA s 58 j = nI (row j) - 1) (by
          rintro n s u hu ⟨⟨v, hl, hB⟩, hp⟩
          have nT : gF s 5 0 = nI T := by rw [vw_gF v (by rfl)]; exact ht
          have at55 : Rw_at s 55 (nI u) = some (a.l u) := by rw [Rw_at_in (r := 55) (n := 3) rfl (by omega) (by decide)]; show some (gA s 56 u) = _; rw [hl u hu]
          have estep : Pl_placeAtEachTree_L13 fu (Pl_placeFrom fu rd) (nI i) ((a.r ||| bitI i) &&& (gA σ 21 i ^^^ (-1))) (a.s + coA σ i) (coA σ i) (fun l5_10 s11 => some s11) (n + 1) (nI u) s = Pl_placeAtEachTree_L13 fu (Pl_placeFrom fu rd) (nI i) ((a.r ||| bitI i) &&& (gA σ 21 i ^^^ (-1))) (a.s + coA σ i) (coA σ i) (fun l5_10 s11 => some s11) (n + 1) (nI u) s := rfl
          conv at estep => rhs; rw [Pl_placeAtEachTree_L13]
          rw [Sh_trees, bindV_some, nT, if_neg (nI_ge hu (by omega)), at55, bindV_some, nI_1] at estep
          rw [fo_succ, show 1 + u = u + 1 by omega]
          generalize fo (fun d B => EE (opA σ) (coA σ) (gA σ 21) (gA σ 15) N T m (i + 1) (stJ (opA σ) (coA σ) (gA σ 21) i d a) (setR row i d) B) u 1 B1 = B2 at hB ⊢
          by_cases hlt : a.l u < coA σ i
          · rw [if_pos hlt] at estep
            have hno : stJ (opA σ) (coA σ) (gA σ 21) i (u + 1) a = none := by
              rw [stJ, if_neg (by omega), if_neg]
              rintro ⟨-, z⟩
              exact z hlt
            refine ⟨s, estep, ⟨v, hl, ?_⟩, hp⟩
            show repC s N (EE _ _ _ _ _ _ m (i + 1) (stJ (opA σ) (coA σ) (gA σ 21) i (u + 1) a) _ B2)
            rw [hno, EE_none]
            exact hB
          · rw [if_neg hlt] at estep
            obtain ⟨c, c1, c2⟩ := g.2.1 i (by omega)
            have hyes : stJ (opA σ) (coA σ) (gA σ 21) i (u + 1) a = some (PS.of (fun u' => if u' = u then a.l u' - coA σ i else a.l u') ((a.r ||| bitI i) &&& (gA σ 21 i ^^^ (-1))) (a.s + coA σ i)) := by
              rw [stJ, if_neg (by omega), Nat.add_sub_cancel, if_pos ⟨ho, hlt⟩]
            obtain ⟨s8, e8, ⟨v8, l8, b8⟩, p8⟩ := ih rd (i + 1) (sA (sA s 56 u (a.l u - coA σ i)) 58 i (nI u)) (PS.of (fun u' => if u' = u then a.l u' - coA σ i else a.l u') ((a.r ||| bitI i) &&& (gA σ 21 i ^^^ (-1))) (a.s + coA σ i)) (setR row i (u + 1)) B2 (q + c) (by omega) (by omega) ⟨by rw [vw_sA (by rfl), vw_sA (by rfl)]; exact v, fun u' hu' => by
                rw [gA_sA_other (by decide), gA_sA_same]
                show (if u' = u then a.l u - coA σ i else gA s 56 u') = if u' = u then a.l u' - coA σ i else a.l u'
                by_cases qu : u' = u
                · rw [if_pos qu, if_pos qu, qu]
                · rw [if_neg qu, if_neg qu]; exact hl u' hu', repC_of rfl rfl (by rw [gA_sA_other (by decide), gA_sA_other (by decide)]) hB⟩ (fun j hj => by
                rw [gA_sA_same]
                show (if j = i then nI u else gA (sA s 56 u (a.l u - coA σ i)) 58 j) = nI (if j = i then u + 1 else row j) - 1
                by_cases qj : j = i
                · rw [if_pos qj, if_pos qj, nI_pred]
                · rw [if_neg qj, if_neg qj, gA_sA_other (by decide)]; exact hp j (by omega)) (by
                show a.s + coA σ i = _
                rw [hs, c1, nI_add]) (by omega)
            have e8' : Pl_placeFrom fu rd (sA (sA s 56 u (a.l u - coA σ i)) 58 i (nI u)) (nI (i + 1)) ((a.r ||| bitI i) &&& (gA σ 21 i ^^^ (-1))) (a.s + coA σ i) = some s8 := e8
            rw [Rw_put_in (r := 55) (n := 3) rfl (by omega) (by decide), bindV_some, Rw_put_in (r := 57) (n := 7) rfl (by omega) (by decide), bindV_some, nI_1, e8', bindV_some, Rw_put_in (r := 55) (n := 3) rfl (by omega) (by decide), bindV_some] at estep
            refine ⟨sA s8 56 u (a.l u), estep, ⟨by rw [vw_sA (by rfl)]; exact v8, fun u' hu' => ?_, ?_⟩, fun j hj => ?_⟩
            · rw [gA_sA_same]
              show (if u' = u then a.l u else gA s8 56 u') = a.l u'
              by_cases qu : u' = u
              · rw [if_pos qu, qu]
              · rw [if_neg qu, l8 u' hu']
                exact if_neg qu
            · show repC _ N (EE _ _ _ _ _ _ m (i + 1) (stJ (opA σ) (coA σ) (gA σ 21) i (u + 1) a) _ B2)
              rw [hyes]
              exact repC_of rfl rfl (gA_sA_other (by decide)) b8
            · rw [gA_sA_other (by decide), p8 j (by omega), setR, if_neg (by omega)]) (by
          rintro n s ⟨⟨v, -⟩, -⟩
          have nT : gF s 5 0 = nI T := by rw [vw_gF v (by rfl)]; exact ht
          show Pl_placeAtEachTree_L13 fu _ (nI i) _ _ _ _ (n + 1) (nI T) s = _
          rw [Pl_placeAtEachTree_L13, Sh_trees, bindV_some, nT, if_pos (Int32.le_refl _)]) T fu s6 0 (Nat.zero_add _) (by omega) ⟨⟨v6, l6, b6⟩, p6'⟩
        have e11' : Pl_placeAtEachTree_L13 fu (Pl_placeFrom fu rd) (nI i) ((a.r ||| bitI i) &&& (gA σ 21 i ^^^ (-1))) (a.s + coA σ i) (coA σ i) (fun l5_10 s11 => some s11) fu (0 : Int32) s6 = some s11 := e11
        rw [e11', bindV_some]
        exact ⟨s11, rfl, ⟨v11, l11, b11⟩, p11⟩
