/-! WHAT HOLDS BETWEEN TWO ACTS, and that each act keeps it -/
def Jt (B t : Nat) (σ : Sg) (N T m : Nat) : Prop := CI σ (gA σ 91) N T m ∧ Row (gA σ 91) N T m ∧ (∃ y, gF σ 5 12 = nI y ∧ gA σ 91 2 = nI y ∧ y ≤ t) ∧ (∃ o, gF σ 5 13 = nI o ∧ gA σ 91 3 = nI o ∧ o ≤ t) ∧ gF σ 0 9 = nI B
theorem w91 : jv_ln 91 = 45 := rfl
theorem w92 : jv_ln 92 = 45 := rfl
theorem mayW_of {W W' : Nat → Int32} {N m k t : Nat} (e : ∀ b, 4 ≤ b → W' b = W b) : mayW W' N m k t = mayW W N m k t := by
  have hc := coW_of (N := N) (k := k) e
  obtain ⟨⟨f1, f2, f3⟩, ⟨f4, f5⟩, f6, f7⟩ := fW e
  rw [mayW, mayW, f1, f4, f6, hc]
theorem act_right_yes {B t : Nat} {σ : Sg} {N T m k u fu : Nat} (h : Jt B t σ N T m) (hk : k < N) (hu : u < T) (ht : t ≤ 800) (hfu : 1000 ≤ fu) (hp : mayW (gA σ 91) N m k u = true) : ∃ r σ1 σ2 m', Co_right (sA σ 91 3 (gA σ 91 3 + 1)) (nI k) (nI u) = some (r, σ1) ∧ La_right fu σ1 91 (nI k) (nI u) = some (r, σ2) ∧ Jt B (t + 1) σ2 N T m' := by
  obtain ⟨hc, hr, ⟨y, y1, y2, y3⟩, ⟨o, o1, o2, o3⟩, hB⟩ := h
  have c0 : CI (sA σ 91 3 (gA σ 91 3 + 1)) (gA σ 91) N T m := hc
  obtain ⟨m', e1, e2, e3⟩ := Co_right_yes (o := o) c0 hr hk hu o1 (by omega) hp
  generalize hs1 : sF (sF (sA (sA σ 91 3 (gA σ 91 3 + 1)) 7 u (beW (gA σ 91) u - coW (gA σ 91) N k)) 5 11 (nI m')) 5 13 (nI (o + 1)) = σ1 at e3
  have e : ∀ b, b ≠ 3 → gA σ1 91 b = gA σ 91 b := fun b hb => by
    rw [← hs1]
    show (if 91 = 91 ∧ b = 3 then _ else gA σ 91 b) = _
    rw [if_neg (fun z => hb z.2)]
  have e4 : ∀ b, 4 ≤ b → gA σ1 91 b = gA σ 91 b := fun b hb => e b (by omega)
  have er : gA σ1 91 3 = nI (o + 1) := by
    rw [← hs1]
    show gA σ 91 3 + 1 = _
    rw [o2, nI_1]
  have hr1 : Row (gA σ1 91) N T m := hr.of (e 0 (by omega)) (e 1 (by omega)) e4
  have hp1 : mayW (gA σ1 91) N m k u = true := by rw [mayW_of e4]; exact hp
  have hco : coW (gA σ1 91) N k = coW (gA σ 91) N k := coW_of e4
  obtain ⟨⟨f1, f2, f3⟩, ⟨f4, f5⟩, f6, f7⟩ := fW e4
  obtain ⟨s, r1, r2⟩ := La_right_is w91 hr1 hk hu hfu
  have e2' : (nI m ||| bitI k) &&& (allS (haW (gA σ1 91)) N k ^^^ (-1)) = nI m' := by rw [f4]; exact e2
  obtain ⟨g1, g2, ⟨g3, g4, g5, g6⟩, g7, g8⟩ := Row_right hr1 hk hu hp1 e1 e2' r2
  obtain ⟨k1, k2, k3, -⟩ := r2
  refine ⟨_, σ1, s, m', e3, by rw [r1, f4], ?_, g1, ⟨y, ?_, ?_, by omega⟩, ⟨o + 1, ?_, ?_, by omega⟩, ?_⟩
  · obtain ⟨⟨p1, p2, p3⟩, p4, p5, p6, p7, p8⟩ := hc
    unfold CI
    rw [k1, k3 7 (by decide), k3 9 (by decide), k3 11 (by decide), k3 13 (by decide), k3 15 (by decide), k3 17 (by decide), k3 19 (by decide), k3 21 (by decide), g3, g4, g5, g6, f1, f2, f3, f4, ← hs1]
    refine ⟨⟨p1, p2, rfl⟩, p4, p5, p6, ?_, p8⟩
    intro i hi
    rw [hs1, g7 i hi, g8 i hi, f6, f7, hco, ← hs1]
    refine ⟨?_, (p7 i hi).2⟩
    show (if 7 = 7 ∧ i = u then _ else gA σ 7 i) = _
    by_cases ei : i = u
    · rw [if_pos ⟨rfl, ei⟩, if_pos ei]
    · rw [if_neg (fun z => ei z.2), if_neg ei]
      exact (p7 i hi).1
  · rw [k1, ← hs1]; exact y1
  · rw [g2 2 (by omega), e 2 (by omega), y2]
  · rw [k1, ← hs1]; rfl
  · rw [g2 3 (by omega), er]
  · rw [k1, ← hs1]; exact hB
theorem act_year {B t : Nat} {σ : Sg} {N T m fu : Nat} (h : Jt B t σ N T m) (ht : t ≤ 800) (hfu : 1000 ≤ fu) : ∃ s, Co_year fu (sA (yrW σ 91 T) 91 2 (gA (yrW σ 91 T) 91 2 + 1)) = some (gA s 91 2, s) ∧ Jt B (t + 1) s N T m := by
  obtain ⟨hc, hr, ⟨y, y1, y2, y3⟩, ⟨o, o1, o2, o3⟩, hB⟩ := h
  have hr' := hr
  obtain ⟨⟨h0, h1, t1, t3, n2, n7, hm⟩, hT, hS⟩ := hr'
  obtain ⟨⟨p1, p2, p3⟩, p4, ⟨R, R1, R2, R3⟩, p6, p7, p8⟩ := hc
  have ey : gA (yrW σ 91 T) 91 2 + 1 = nI (y + 1) := by
    rw [gA_yrW, if_neg (by omega), y2, nI_1]
  rw [ey]
  generalize hs0 : sA (yrW σ 91 T) 91 2 (nI (y + 1)) = s0
  have q1 : gF s0 5 12 = nI y := by rw [← hs0]; exact y1
  have q2 : gF s0 5 0 = nI T := by rw [← hs0]; exact p2
  have q3 : gF s0 0 9 = nI R := by rw [← hs0]; exact R1
  have w : ∀ b, gA (sF (yrA s0 7 9 T) 5 12 (nI (y + 1))) 91 b = if b = 2 then nI (y + 1) else if 4 ≤ b ∧ b < 4 + T then yv (gA σ 91 b) (gA σ 91 (b + 3)) else gA σ 91 b := by
    intro b
    rw [← hs0]
    show (if 91 = 91 ∧ b = 2 then nI (y + 1) else if 91 = 91 ∧ 4 ≤ b ∧ b < 4 + T then yv (gA σ 91 b) (gA σ 91 (b + 3)) else gA σ 91 b) = _
    simp only [true_and]
  have v7 : ∀ i, i < T → gA (sF (yrA s0 7 9 T) 5 12 (nI (y + 1))) 7 i = yv (gA σ 7 i) (gA σ 9 i) := by
    intro i hi
    show gA (yrA s0 7 9 T) 7 i = _
    rw [gA_yrA, if_pos ⟨rfl, hi⟩, ← hs0]
    rfl
  have fbe : ∀ i, i < T → beW (gA (sF (yrA s0 7 9 T) 5 12 (nI (y + 1))) 91) i = yv (beW (gA σ 91) i) (biW (gA σ 91) i) := by
    intro i hi
    show gA (sF (yrA s0 7 9 T) 5 12 (nI (y + 1))) 91 (4 + i) = _
    rw [w, if_neg (by omega), if_pos (by omega), show 4 + i + 3 = 7 + i by omega]
    rfl
  have hi : ∀ b, 4 + T ≤ b → gA (sF (yrA s0 7 9 T) 5 12 (nI (y + 1))) 91 b = gA σ 91 b := fun b hb => by rw [w, if_neg (by omega), if_neg (by omega)]
  have fki : kiW (gA (sF (yrA s0 7 9 T) 5 12 (nI (y + 1))) 91) = kiW (gA σ 91) := funext fun i => hi _ (by omega)
  have fne : neW (gA (sF (yrA s0 7 9 T) 5 12 (nI (y + 1))) 91) = neW (gA σ 91) := funext fun i => hi _ (by omega)
  have fwo : woW (gA (sF (yrA s0 7 9 T) 5 12 (nI (y + 1))) 91) = woW (gA σ 91) := funext fun i => hi _ (by omega)
  have fha : haW (gA (sF (yrA s0 7 9 T) 5 12 (nI (y + 1))) 91) = haW (gA σ 91) := funext fun i => hi _ (by omega)
  have fri : riW (gA (sF (yrA s0 7 9 T) 5 12 (nI (y + 1))) 91) = riW (gA σ 91) := funext fun i => hi _ (by omega)
  have fbi : biW (gA (sF (yrA s0 7 9 T) 5 12 (nI (y + 1))) 91) = biW (gA σ 91) := funext fun i => hi _ (by omega)
  refine ⟨sF (yrA s0 7 9 T) 5 12 (nI (y + 1)), ?_, ?_, ?_, ⟨y + 1, rfl, by rw [w, if_pos rfl], by omega⟩, ⟨o, ?_, ?_, by omega⟩, ?_⟩
  · rw [Co_year, Co_isRead_in q3 (by omega) (by omega), bindV_some, if_pos (by decide), Sh_years, bindV_some, q1, if_pos (by rw [show (999 : Int32) = nI 999 from rfl, nI_ltI (by omega) (by omega)]; omega), passYear5 q2 t3 hfu, bindV_some, q1, nI_1, Sh_years, bindV_some, w, if_pos rfl]
    rfl
  · unfold CI
    rw [fki, fne, fwo, fha, fbi]
    refine ⟨⟨?_, ?_, ?_⟩, ?_, ⟨R, ?_, R2, R3⟩, ?_, fun i hi => ?_, ?_⟩
    · rw [← hs0]; exact p1
    · rw [← hs0]; exact p2
    · rw [← hs0]; exact p3
    · rw [← hs0]; exact p4
    · rw [← hs0]; exact R1
    · rw [← hs0]; exact p6
    · rw [v7 i hi, fbe i hi, (p7 i hi).1, (p7 i hi).2]
      refine ⟨rfl, ?_⟩
      rw [← hs0]
      exact (p7 i hi).2
    · rw [← hs0]; exact p8
  · refine ⟨⟨?_, ?_, t1, t3, n2, n7, hm⟩, ?_, ?_⟩
    · rw [w, if_neg (by omega), if_neg (by omega), h0]
    · rw [w, if_neg (by omega), if_neg (by omega), h1]
    · intro i hi
      rw [fbe i hi, fbi]
      refine ⟨?_, (hT i hi).2⟩
      exact yv_rng (f := beW (gA σ 91)) (g := biW (gA σ 91)) (n := T) (hi := 9) (by decide) (fun j hj => (hT j hj).1) (fun j hj => (hT j hj).2) i hi
    · intro i hi
      rw [fki, fne, fwo, fha, fri]
      exact hS i hi
  · rw [← hs0]; exact o1
  · rw [w, if_neg (by omega), if_neg (by omega), o2]
  · rw [← hs0]; exact hB
theorem act_birds {B t : Nat} {σ : Sg} {N T m u d : Nat} (h : Jt B t σ N T m) (hu : u < T) (hd : d ≤ 9) : ∃ s, Co_birds (sA σ 91 (7 + u) (nI d)) (nI u) (nI d) = some (gA σ 91 (7 + u), s) ∧ Jt B (t + 1) s N T m := by
  obtain ⟨hc, hr, ⟨y, y1, y2, y3⟩, ⟨o, o1, o2, o3⟩, hB⟩ := h
  have hr' := hr
  obtain ⟨⟨h0, h1, t1, t3, n2, n7, hm⟩, hT, hS⟩ := hr'
  obtain ⟨⟨p1, p2, p3⟩, p4, p5, p6, p7, p8⟩ := hc
  have e := hasTree_in (σ := sA σ 91 (7 + u) (nI d)) p2 t3 hu
  have hv : gA (sA σ 91 (7 + u) (nI d)) 9 u = gA σ 91 (7 + u) := (p7 u hu).2
  generalize hs : sA (sA σ 91 (7 + u) (nI d)) 9 u (nI d) = s
  have w : ∀ b, gA s 91 b = if b = 7 + u then nI d else gA σ 91 b := by
    intro b
    rw [← hs]
    show (if 91 = 91 ∧ b = 7 + u then nI d else gA σ 91 b) = _
    simp only [true_and]
  have hi : ∀ b, b ≠ 7 + u → gA s 91 b = gA σ 91 b := fun b hb => by rw [w, if_neg hb]
  have fki : kiW (gA s 91) = kiW (gA σ 91) := funext fun i => hi _ (by omega)
  have fne : neW (gA s 91) = neW (gA σ 91) := funext fun i => hi _ (by omega)
  have fwo : woW (gA s 91) = woW (gA σ 91) := funext fun i => hi _ (by omega)
  have fha : haW (gA s 91) = haW (gA σ 91) := funext fun i => hi _ (by omega)
  have fri : riW (gA s 91) = riW (gA σ 91) := funext fun i => hi _ (by omega)
  have fbe : ∀ i, i < T → beW (gA s 91) i = beW (gA σ 91) i := fun i h => hi _ (by omega)
  have fbi : ∀ i, biW (gA s 91) i = if i = u then nI d else biW (gA σ 91) i := by
    intro i
    by_cases ei : i = u
    · subst ei
      rw [if_pos rfl]
      show gA s 91 (7 + i) = _
      rw [w, if_pos rfl]
    · rw [if_neg ei]
      exact hi _ (by omega)
  refine ⟨s, ?_, ?_, ?_, ⟨y, ?_, ?_, by omega⟩, ⟨o, ?_, ?_, by omega⟩, ?_⟩
  · rw [Co_birds, e, bindV_some, if_pos (by decide), if_neg (nI_pos (by omega)), if_pos (show nI d ≤ 9 from (nI_leI (b := 9) (by omega) (by omega)).mpr hd), Sh_birdsAt, at_bi5 (by omega), bindV_some, bindV_some, Sh_setBirds, Rw_put_in (n := 3) rfl (by omega) (by decide), bindV_some, bindV_some, hv, hs]
  · unfold CI
    rw [fki, fne, fwo, fha]
    refine ⟨⟨?_, ?_, ?_⟩, ?_, ?_, ?_, fun i hi => ?_, ?_⟩
    · rw [← hs]; exact p1
    · rw [← hs]; exact p2
    · rw [← hs]; exact p3
    · rw [← hs]; exact p4
    · rw [← hs]; exact p5
    · rw [← hs]; exact p6
    · rw [fbe i hi, fbi i]
      refine ⟨?_, ?_⟩
      · rw [← hs]; exact (p7 i hi).1
      · rw [← hs]
        show (if 9 = 9 ∧ i = u then nI d else gA σ 9 i) = _
        by_cases ei : i = u
        · rw [if_pos ⟨rfl, ei⟩, if_pos ei]
        · rw [if_neg (fun z => ei z.2), if_neg ei]
          exact (p7 i hi).2
    · rw [← hs]; exact p8
  · refine ⟨⟨?_, ?_, t1, t3, n2, n7, hm⟩, ?_, ?_⟩
    · rw [hi 0 (by omega), h0]
    · rw [hi 1 (by omega), h1]
    · intro i hi
      rw [fbe i hi, fbi i]
      refine ⟨(hT i hi).1, ?_⟩
      by_cases ei : i = u
      · rw [if_pos ei]
        exact ⟨d, rfl, hd⟩
      · rw [if_neg ei]
        exact (hT i hi).2
    · intro i hi
      rw [fki, fne, fwo, fha, fri]
      exact hS i hi
  · rw [← hs]; exact y1
  · rw [hi 2 (by omega), y2]
  · rw [← hs]; exact o1
  · rw [hi 3 (by omega), o2]
  · rw [← hs]; exact hB
theorem act_plead {B t : Nat} {σ : Sg} {N T m k d w : Nat} (h : Jt B t σ N T m) (hk : k < N) (hd1 : 1 ≤ d) (hd : d ≤ 9) (hw1 : 1 ≤ w) (hw : w ≤ 9) : ∃ s, Co_plead (sA (sA σ 91 (11 + 5 * k) (nI d)) 91 (12 + 5 * k) (nI w)) (nI k) (nI d) (nI w) = some (gA σ 91 (12 + 5 * k), s) ∧ Jt B (t + 1) s N T m := by
  obtain ⟨hc, hr, ⟨y, y1, y2, y3⟩, ⟨o, o1, o2, o3⟩, hB⟩ := h
  have hr' := hr
  obtain ⟨⟨h0, h1, t1, t3, n2, n7, hm⟩, hT, hS⟩ := hr'
  obtain ⟨⟨p1, p2, p3⟩, p4, p5, p6, p7, p8⟩ := hc
  have e := hasSuit_in (σ := sA (sA σ 91 (11 + 5 * k) (nI d)) 91 (12 + 5 * k) (nI w)) p1 n7 hk
  have hv : gA (sA (sA σ 91 (11 + 5 * k) (nI d)) 91 (12 + 5 * k) (nI w)) 15 k = gA σ 91 (12 + 5 * k) := (p8 k hk).2.2.1
  generalize hs : sA (sA (sA (sA σ 91 (11 + 5 * k) (nI d)) 91 (12 + 5 * k) (nI w)) 13 k (nI d)) 15 k (nI w) = s
  have wv : ∀ b, gA s 91 b = if b = 12 + 5 * k then nI w else if b = 11 + 5 * k then nI d else gA σ 91 b := by
    intro b
    rw [← hs]
    show (if 91 = 91 ∧ b = 12 + 5 * k then nI w else if 91 = 91 ∧ b = 11 + 5 * k then nI d else gA σ 91 b) = _
    simp only [true_and]
  have hi : ∀ b, b ≠ 12 + 5 * k → b ≠ 11 + 5 * k → gA s 91 b = gA σ 91 b := fun b hb hb2 => by rw [wv, if_neg hb, if_neg hb2]
  have fki : kiW (gA s 91) = kiW (gA σ 91) := funext fun i => hi _ (by omega) (by omega)
  have fha : haW (gA s 91) = haW (gA σ 91) := funext fun i => hi _ (by omega) (by omega)
  have fri : riW (gA s 91) = riW (gA σ 91) := funext fun i => hi _ (by omega) (by omega)
  have fbe : ∀ i, i < T → beW (gA s 91) i = beW (gA σ 91) i := fun i h => hi _ (by omega) (by omega)
  have fbi : ∀ i, i < T → biW (gA s 91) i = biW (gA σ 91) i := fun i h => hi _ (by omega) (by omega)
  have fne : ∀ i, neW (gA s 91) i = if i = k then nI d else neW (gA σ 91) i := by
    intro i
    by_cases ei : i = k
    · subst ei
      rw [if_pos rfl]
      show gA s 91 (11 + 5 * i) = _
      rw [wv, if_neg (by omega), if_pos rfl]
    · rw [if_neg ei]
      exact hi _ (by omega) (by omega)
  have fwo : ∀ i, woW (gA s 91) i = if i = k then nI w else woW (gA σ 91) i := by
    intro i
    by_cases ei : i = k
    · subst ei
      rw [if_pos rfl]
      show gA s 91 (12 + 5 * i) = _
      rw [wv, if_pos rfl]
    · rw [if_neg ei]
      exact hi _ (by omega) (by omega)
  have l1 : ¬ nI d < 1 := fun z => by have := (nI_ltI (b := 1) (by omega) (by omega)).mp z; omega
  have l2 : ¬ (9 : Int32) < nI d := fun z => by have := (nI_ltI (a := 9) (by omega) (by omega)).mp z; omega
  have l3 : ¬ nI w < 1 := fun z => by have := (nI_ltI (b := 1) (by omega) (by omega)).mp z; omega
  have l4 : nI w ≤ 9 := (nI_leI (b := 9) (by omega) (by omega)).mpr hw
  refine ⟨s, ?_, ?_, ?_, ⟨y, ?_, ?_, by omega⟩, ⟨o, ?_, ?_, by omega⟩, ?_⟩
  · rw [Co_plead, e, bindV_some, if_pos (by decide), if_neg l1, if_neg l2, if_neg l3, if_pos l4, Sh_worth, at_wo5 (by omega), bindV_some, bindV_some, Sh_setClaim, Rw_put_in (n := 7) rfl (by omega) (by decide), bindV_some, Rw_put_in (n := 7) rfl (by omega) (by decide), bindV_some, bindV_some, hv, hs]
  · unfold CI
    rw [fki, fha]
    refine ⟨⟨?_, ?_, ?_⟩, ?_, ?_, ?_, fun i hi => ?_, fun i hi => ?_⟩
    · rw [← hs]; exact p1
    · rw [← hs]; exact p2
    · rw [← hs]; exact p3
    · rw [← hs]; exact p4
    · rw [← hs]; exact p5
    · rw [← hs]; exact p6
    · rw [fbe i hi, fbi i hi, ← hs]
      exact p7 i hi
    · obtain ⟨g1, g2, g3, g4, g5, g6⟩ := p8 i hi
      rw [fne, fwo, ← hs]
      refine ⟨g1, ?_, ?_, g4, g5, g6⟩
      · show (if 13 = 13 ∧ i = k then nI d else gA σ 13 i) = _
        by_cases ei : i = k
        · rw [if_pos ⟨rfl, ei⟩, if_pos ei]
        · rw [if_neg (fun z => ei z.2), if_neg ei]; exact g2
      · show (if 15 = 15 ∧ i = k then nI w else gA σ 15 i) = _
        by_cases ei : i = k
        · rw [if_pos ⟨rfl, ei⟩, if_pos ei]
        · rw [if_neg (fun z => ei z.2), if_neg ei]; exact g3
  · refine ⟨⟨?_, ?_, t1, t3, n2, n7, hm⟩, ?_, ?_⟩
    · rw [hi 0 (by omega) (by omega), h0]
    · rw [hi 1 (by omega) (by omega), h1]
    · intro i hi
      rw [fbe i hi, fbi i hi]
      exact hT i hi
    · intro i hi
      rw [fki, fha, fri, fne, fwo]
      obtain ⟨g1, g2, g3, g4⟩ := hS i hi
      by_cases ei : i = k
      · rw [if_pos ei, if_pos ei]
        exact ⟨g1, ⟨d, rfl, hd1, hd⟩, ⟨w, rfl, hw⟩, g4⟩
      · rw [if_neg ei, if_neg ei]
        exact ⟨g1, g2, g3, g4⟩
  · rw [← hs]; exact y1
  · rw [hi 2 (by omega) (by omega), y2]
  · rw [← hs]; exact o1
  · rw [hi 3 (by omega) (by omega), o2]
  · rw [← hs]; exact hB
theorem Jt.mono {B t t' : Nat} {σ : Sg} {N T m : Nat} (h : Jt B t σ N T m) (ht : t ≤ t') : Jt B t' σ N T m := by
  obtain ⟨hc, hr, ⟨y, y1, y2, y3⟩, ⟨o, o1, o2, o3⟩, hB⟩ := h
  exact ⟨hc, hr, ⟨y, y1, y2, by omega⟩, ⟨o, o1, o2, by omega⟩, hB⟩
theorem Co_walk_no {σ : Sg} {N T m k fu : Nat} {W : Nat → Int32} (h : CI σ W N T m) (hr : RowA W N T m) (hk : k < N) (hb : m.testBit k = false) : Co_walk fu σ (nI k) = some (-103, σ) := by
  obtain ⟨h0, h1, t1, t3, n2, n7, hm⟩ := hr
  rw [Co_walk, hasSuit_in h.1.1 n7 hk, bindV_some, if_pos (by decide), Sh_righted, bindV_some, h.1.2.2, Co_has_is, bindV_some, hasX_nI m (by omega), hb, if_neg (by decide)]
theorem act_walk {B t : Nat} {σ : Sg} {N T m k fu : Nat} (h : Jt B t σ N T m) (hk : k < N) (hfu : 1000 ≤ fu) (hb : m.testBit k = true) : ∃ r s m', Co_walk fu (sA σ 91 (14 + 5 * k) 0) (nI k) = some (r, s) ∧ Jt B (t + 1) s N T m' ∧ r = worthS (woW (gA s 91)) N (nI m') := by
  obtain ⟨hc, hr, ⟨y, y1, y2, y3⟩, ⟨o, o1, o2, o3⟩, hB⟩ := h
  have hw := hc.worth
  have hr' := hr
  obtain ⟨⟨h0, h1, t1, t3, n2, n7, hm⟩, hT, hS⟩ := hr'
  have h7 := two7 n7
  obtain ⟨⟨p1, p2, p3⟩, p4, p5, p6, p7, p8⟩ := hc
  have e := hasSuit_in (σ := sA σ 91 (14 + 5 * k) 0) p1 n7 hk
  obtain ⟨m', e1, e2⟩ := nI_andX m (by omega) (bitI k ^^^ (-1))
  have hbit : ∀ j, j < 7 → m'.testBit j = (m.testBit j && !decide (k = j)) := by
    intro j hj
    rw [← b_nI m' (show j < 32 by omega), ← e1, b_and, b_nI m (by omega), b_xor, b_bitI (by omega) (by omega), b_m1 j (by omega), Bool.xor_true]
  generalize hs : sF (sA σ 91 (14 + 5 * k) 0) 5 11 (nI m') = s
  have hi : ∀ b, b ≠ 14 + 5 * k → gA s 91 b = gA σ 91 b := by
    intro b hb
    rw [← hs]
    show (if 91 = 91 ∧ b = 14 + 5 * k then 0 else gA σ 91 b) = _
    rw [if_neg (fun z => hb z.2)]
  have fki : kiW (gA s 91) = kiW (gA σ 91) := funext fun i => hi _ (by omega)
  have fne : neW (gA s 91) = neW (gA σ 91) := funext fun i => hi _ (by omega)
  have fwo : woW (gA s 91) = woW (gA σ 91) := funext fun i => hi _ (by omega)
  have fha : haW (gA s 91) = haW (gA σ 91) := funext fun i => hi _ (by omega)
  have fbe : ∀ i, i < T → beW (gA s 91) i = beW (gA σ 91) i := fun i h => hi _ (by omega)
  have fbi : ∀ i, i < T → biW (gA s 91) i = biW (gA σ 91) i := fun i h => hi _ (by omega)
  refine ⟨worthS (woW (gA σ 91)) N (nI m'), s, m', ?_, ⟨?_, ?_, ⟨y, ?_, ?_, by omega⟩, ⟨o, ?_, ?_, by omega⟩, ?_⟩, by rw [fwo]⟩
  · have hX : hasX (nI m) (nI k) = true := by rw [hasX_nI m (by omega), hb]
    have p3' : gF (sA σ 91 (14 + 5 * k) 0) 5 11 = nI m := p3
    rw [Co_walk, e, bindV_some, if_pos (by decide), Sh_righted, bindV_some, p3', Co_has_is, bindV_some, hX, if_pos (by decide), Sh_unright, Co_bit_is, bindV_some, bindV_some, p3', e1, hs, holds5 (σ := s) (N := N) (by rw [← hs]; exact p1) n7 hfu, bindV_some]
    congr 2
    rw [← hw, ← hs]
    rfl
  · unfold CI
    rw [fki, fne, fwo, fha]
    refine ⟨⟨?_, ?_, ?_⟩, ?_, ?_, ?_, fun i hi => ?_, ?_⟩
    · rw [← hs]; exact p1
    · rw [← hs]; exact p2
    · rw [← hs]; rfl
    · rw [← hs]; exact p4
    · rw [← hs]; exact p5
    · rw [← hs]; exact p6
    · rw [fbe i hi, fbi i hi, ← hs]
      exact p7 i hi
    · rw [← hs]; exact p8
  · refine ⟨⟨?_, ?_, t1, t3, n2, n7, by omega⟩, ?_, ?_⟩
    · rw [hi 0 (by omega), h0]
    · rw [hi 1 (by omega), h1]
    · intro i hi
      rw [fbe i hi, fbi i hi]
      exact hT i hi
    · intro i hi2
      rw [fki, fne, fwo, fha]
      obtain ⟨g1, g2, g3, g4, g5⟩ := hS i hi2
      refine ⟨g1, g2, g3, g4, ?_⟩
      rw [hbit i (by omega)]
      show gA s 91 (14 + 5 * i) = _
      by_cases ei : k = i
      · subst ei
        rw [← hs]
        show (if 91 = 91 ∧ 14 + 5 * k = 14 + 5 * k then (0 : Int32) else _) = _
        rw [if_pos ⟨rfl, rfl⟩]
        simp [b2]
      · rw [hi _ (by omega)]
        have g5' : gA σ 91 (14 + 5 * i) = b2 (m.testBit i) := g5
        rw [g5', show decide (k = i) = false by simp [ei]]
        simp
  · rw [← hs]; exact y1
  · rw [hi 2 (by omega), y2]
  · rw [← hs]; exact o1
  · rw [hi 3 (by omega), o2]
  · rw [← hs]; exact hB
