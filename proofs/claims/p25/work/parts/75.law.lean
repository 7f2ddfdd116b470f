/-! THE LAW: two trips -/
theorem law77_all {B : Nat} {σ : Sg} {N T m fu L p : Nat} {xs : Nat → Int32} (hL : L ≤ 260) (h : Jt B 0 σ N T m) (hfu : 1000 ≤ fu) (hp : p ≤ 100) (l4 : Int32) (kont : Int32 → Sg → Option (Int32 × Sg)) : ∃ s m', Jt B 22 s N T m' ∧ La_law_L77 fu xs L l4 (nI p) kont fu 0 σ = kont (nI 22) s := by
  obtain ⟨s, ⟨m', h1⟩, h2⟩ := loop_ex (N := 22) (L := fun n (s : Sg) i => La_law_L77 fu xs L l4 (nI p) kont n i s) (kont := fun s i => kont i s) (fun i s => ∃ m', Jt B i s N T m') (fun n s i hi hI => by
    obtain ⟨m', hI⟩ := hI
    obtain ⟨s', m'', e1, e2⟩ := law77 (n := n) hL hI (by omega) hfu hp hi l4 kont
    exact ⟨s', e1, m'', e2⟩) (fun n s hI => by
    show La_law_L77 fu xs L l4 (nI p) kont (n + 1) (nI 22) s = _
    rw [La_law_L77, if_pos (show (22 : Int32) ≤ nI 22 from Int32.le_refl _)]) 22 fu σ 0 (Nat.zero_add 22) (by omega) ⟨m, h⟩
  exact ⟨s, m', h1, h2⟩
theorem law21 {σ : Sg} {fu L i R n : Nat} {xs : Nat → Int32} (hL : L ≤ 260) (hfu : 1000 ≤ fu) (hi : i < 2) (h11 : gF σ 1 1 = nI 0) (hR : gF σ 0 9 = nI R) (hRb : R ≤ 90) (kont : Int32 → Sg → Option (Int32 × Sg)) : ∃ s, La_law_L21 fu xs L kont (n + 1) (nI i) σ = La_law_L21 fu xs L kont n (nI (i + 1)) s ∧ gF s 1 1 = nI 0 ∧ gF s 0 9 = nI (R + 1) := by
  obtain ⟨X, hX, eX⟩ := La_cell_is xs (29 * i) hL (by omega)
  obtain ⟨Y, hY, eY⟩ := La_cell_is xs (29 * i + 1) hL (by omega)
  obtain ⟨Z, hZ, eZ⟩ := La_cell_is xs (29 * i + 2) hL (by omega)
  obtain ⟨s1, N, T, e1, j1⟩ := La_shire_is hfu h11 hR hRb hX hY (nI Z)
  have j1' := j1
  obtain ⟨hc1, hr1, ⟨y, y1, y2, -⟩, ⟨o, o1, o2, -⟩, -⟩ := j1'
  have hto := La_told_is w91 hc1 hr1 (y1.trans y2.symm) (o1.trans o2.symm) hfu
  have e29 : (29 : Int32) * nI i = nI (29 * i) := nI_mul 29 i
  rw [La_law_L21, if_neg (show ¬ (2 : Int32) ≤ nI i from nI_ge (b := 2) hi (by omega)), e29, eX, bindV_some, nI_1 (29 * i), eY, bindV_some, nI_p2, eZ, bindV_some, e1, bindP_some, if_neg (by decide), hto, bindV_some, if_pos (by decide)]
  obtain ⟨s2, m2, j2, e2⟩ := law77_all (xs := xs) hL j1 hfu (show 29 * i ≤ 100 by omega) (nI i) _
  refine Exists.imp (fun s => And.imp_left (fun e => e2.trans e)) ?_
  obtain ⟨⟨t0, t1, t2, t3, t4, t5, t6⟩, ⟨r0, r1, r2, r3, r4, r5, r6, r7, r8⟩, c0, c1, c2, c3⟩ := refused_are (fu := fu) j2
  have j2' := j2
  obtain ⟨hc2, hr2, -, -, hB⟩ := j2'
  have w0 : gA s2 91 0 = nI T := hr2.1.1
  have w1 : gA s2 91 1 = nI N := hr2.1.2.1
  rw [if_pos (show inb (1 : Int32) 45 = true from rfl), ix1, w1, bindV_some, if_pos (show inb (0 : Int32) 45 = true from rfl), ix0, w0, bindV_some]
  rw [t0, bindV_some, if_neg (by decide), t1, bindV_some, if_neg (by decide), t2, bindV_some, if_neg (by decide), t3, bindV_some, if_neg (by decide), t4, bindV_some, if_neg (by decide), t5, bindV_some, if_neg (by decide), t6, bindV_some, if_neg (by decide)]
  rw [r0, bindP_some, if_neg (by decide), r1, bindP_some, if_neg (by decide), r2, bindP_some, if_neg (by decide), r3, bindP_some, if_neg (by decide), r4, bindP_some, if_neg (by decide), r5, bindP_some, if_neg (by decide), r6, bindP_some, if_neg (by decide), r7, bindP_some, if_neg (by decide), r8, bindP_some, if_neg (by decide)]
  rw [c0, bindP_some, if_neg (by decide), c1, bindP_some, if_neg (by decide), c2, bindP_some, if_neg (by decide), c3, bindP_some, if_pos rfl, nI_1]
  exact ⟨s2, rfl, hc2.2.2.2.1, hB⟩
theorem law_run {σ : Sg} {fu L : Nat} {xs : Nat → Int32} (hL : L ≤ 260) (hfu : 1000 ≤ fu) (h11 : gF σ 1 1 = nI 0) (hR : gF σ 0 9 = nI 0) : ∃ s, La_law fu xs L σ = some (1, s) := by
  obtain ⟨f, rfl⟩ : ∃ j, fu = j + 1 + 1 + 1 := ⟨fu - 3, by omega⟩
  obtain ⟨s1, e1, a1, b1⟩ := law21 (fu := f + 1 + 1 + 1) (i := 0) (n := f + 1 + 1) (xs := xs) hL hfu (by omega) h11 hR (by omega) (fun l4 s => some ((1 : Int32), s))
  obtain ⟨s2, e2, a2, b2⟩ := law21 (fu := f + 1 + 1 + 1) (i := 1) (n := f + 1) (xs := xs) hL hfu (by omega) a1 b1 (by omega) (fun l4 s => some ((1 : Int32), s))
  refine ⟨s2, ?_⟩
  rw [La_law]
  refine e1.trans (e2.trans ?_)
  rw [La_law_L21, if_pos (show (2 : Int32) ≤ nI (1 + 1) from Int32.le_refl _)]
