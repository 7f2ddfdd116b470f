/-! THE CENTURIES -/
theorem right_two' {r b l : Int32} (h : ∀ i, i < 32 → bt b i = true → bt l i = false) : (r ||| b) &&& (l ^^^ (-1)) = (r &&& (l ^^^ (-1))) ||| b := by
  apply b_ext
  intro i hi
  have h1 := h i hi
  rw [b_and, b_or, b_xor, b_m1 i hi, b_or, b_and, b_xor, b_m1 i hi]
  revert h1
  cases bt r i <;> cases bt b i <;> cases bt l i <;> simp
def CA : Type := (Nat → Int32) × Int32 × Nat × Int32
def CA.be (a : CA) : Nat → Int32 := a.1
def CA.r (a : CA) : Int32 := a.2.1
def CA.sd (a : CA) : Nat := a.2.2.1
def CA.cn (a : CA) : Int32 := a.2.2.2
def CA.of (be : Nat → Int32) (r : Int32) (sd : Nat) (cn : Int32) : CA := (be, r, sd, cn)
theorem r_of (b : Nat → Int32) (r : Int32) (s : Nat) (c : Int32) : (CA.of b r s c).r = r := rfl
theorem cn_of (b : Nat → Int32) (r : Int32) (s : Nat) (c : Int32) : (CA.of b r s c).cn = c := rfl
theorem sd_of (b : Nat → Int32) (r : Int32) (s : Nat) (c : Int32) : (CA.of b r s c).sd = s := rfl
theorem be_of (b : Nat → Int32) (r : Int32) (s : Nat) (c : Int32) : (CA.of b r s c).be = b := rfl
def coA (σ : Sg) (c : Nat) : Int32 := costS (gA σ 11 c) (gA σ 13 c) (gA σ 19 c)
def okA (σ : Sg) (N T : Nat) (a : CA) : Bool := openS (gA σ 11) (gA σ 17) a.r (nx a.sd / 65536 % N) && !decide (a.be (nx (nx a.sd) / 65536 % T) < coA σ (nx a.sd / 65536 % N))
def stA (σ : Sg) (N T : Nat) (a : CA) : CA :=
  if okA σ N T a = true then CA.of (fun i => if i = nx (nx a.sd) / 65536 % T then a.be i - coA σ (nx a.sd / 65536 % N) else a.be i) ((a.r ||| bitI (nx a.sd / 65536 % N)) &&& (gA σ 21 (nx a.sd / 65536 % N) ^^^ (-1))) (nx (nx a.sd)) (a.cn + 1)
  else CA.of (fun i => if i < T then yv (a.be i) (gA σ 9 i) else a.be i) a.r (nx (nx a.sd)) a.cn
def itA (σ : Sg) (N T k : Nat) : Nat → CA
  | 0 => CA.of (gA σ 7) (gF σ 5 11) k 0
  | i + 1 => stA σ N T (itA σ N T k i)
theorem itA_sd {σ : Sg} {N T k : Nat} (hk : k < 2147483648) : ∀ i, (itA σ N T k i).sd < 2147483648
  | 0 => hk
  | i + 1 => by
    rw [itA, stA]
    split
    · exact nx_lt _
    · exact nx_lt _
def RC (σ : Sg) (N T : Nat) (a : CA) (s : Sg) : Prop := vw s = vw σ ∧ (gF s 67 0 = nI T ∧ gF s 67 1 = nI N) ∧ gF s 67 11 = a.r ∧ gF s 67 13 = gF σ 5 13 + a.cn ∧ gL s 66 2 = nL a.sd ∧ (∀ i, i < 3 → gA s 69 i = a.be i ∧ gA s 71 i = gA σ 9 i) ∧ ∀ i, i < 7 → gA s 73 i = gA σ 11 i ∧ gA s 75 i = gA σ 13 i ∧ gA s 77 i = gA σ 15 i ∧ gA s 79 i = gA σ 17 i ∧ gA s 81 i = gA σ 19 i ∧ gA s 83 i = gA σ 21 i
theorem vw_yrA {σ : Sg} {be bi n : Nat} (h : relA be = false) : vw (yrA σ be bi n) = vw σ := by
  refine Prod.ext rfl (Prod.ext ?_ rfl)
  funext a b
  show (if relA a = true then (if a = be ∧ b < n then yv (σ.2.1 be b) (σ.2.1 bi b) else σ.2.1 a b) else 0) = if relA a = true then σ.2.1 a b else 0
  by_cases hr : relA a = true
  · rw [if_pos hr, if_pos hr, if_neg]
    rintro ⟨rfl, -⟩
    rw [h] at hr
    cases hr
  · rw [if_neg hr, if_neg hr]
theorem openS_cong {ki ki' ha ha' : Nat → Int32} {r : Int32} {c : Nat} (h1 : ki c = ki' c) (h2 : ha c = ha' c) : openS ki ha r c = openS ki' ha' r c := by rw [openS, openS, h1, h2]
theorem RC_step {σ s : Sg} {N T fu : Nat} {a : CA} (hfu : 1000 ≤ fu) (hN : 0 < N) (hN7 : N ≤ 7) (hT : 0 < T) (hT3 : T ≤ 3) (hsd : a.sd < 2147483648) (h : RC σ N T a s) (l1 : Int32) (kont : Int32 → Sg → Option Sg) (n i : Nat) (hi : ¬ l1 ≤ nI i) : ∃ s', Fo_pass_L19 fu l1 kont (n + 1) (nI i) s = Fo_pass_L19 fu l1 kont n (nI (i + 1)) s' ∧ RC σ N T (stA σ N T a) s' := by
  obtain ⟨v, ⟨f0, f1⟩, fr, fc, fs, fb, fa⟩ := h
  have hc := Nat.mod_lt (nx a.sd / 65536) hN
  have hu := Nat.mod_lt (nx (nx a.sd) / 65536) hT
  have e1 := Fo_draw_is (σ := s) (n := N) hsd (by omega) hN fs
  have e2 := Fo_draw_is (σ := sL s 66 2 (nL (nx a.sd))) (n := T) (nx_lt a.sd) (by omega) hT (gL_sL1 _ _ _ _)
  rw [sL_sL] at e2
  have e3 := isPossible67 (σ := sL s 66 2 (nL (nx (nx a.sd)))) (c := nx a.sd / 65536 % N) (t := nx (nx a.sd) / 65536 % T) (by omega) (by omega)
  have ok : (openS (gA (sL s 66 2 (nL (nx (nx a.sd)))) 73) (gA (sL s 66 2 (nL (nx (nx a.sd)))) 79) (gF (sL s 66 2 (nL (nx (nx a.sd)))) 67 11) (nx a.sd / 65536 % N) && !decide (gA (sL s 66 2 (nL (nx (nx a.sd)))) 69 (nx (nx a.sd) / 65536 % T) < costS (gA (sL s 66 2 (nL (nx (nx a.sd)))) 73 (nx a.sd / 65536 % N)) (gA (sL s 66 2 (nL (nx (nx a.sd)))) 75 (nx a.sd / 65536 % N)) (gA (sL s 66 2 (nL (nx (nx a.sd)))) 81 (nx a.sd / 65536 % N)))) = okA σ N T a := by
    show (openS (gA s 73) (gA s 79) (gF s 67 11) (nx a.sd / 65536 % N) && !decide (gA s 69 (nx (nx a.sd) / 65536 % T) < costS (gA s 73 (nx a.sd / 65536 % N)) (gA s 75 (nx a.sd / 65536 % N)) (gA s 81 (nx a.sd / 65536 % N)))) = _
    obtain ⟨a1, a2, a3, a4, a5, a6⟩ := fa (nx a.sd / 65536 % N) (by omega)
    rw [okA, coA, fr, (fb _ (show nx (nx a.sd) / 65536 % T < 3 by omega)).1, openS_cong a1 a4, a1, a2, a5]
  rw [ok] at e3
  have f1' : gF s 67 1 = nI N := f1
  have f0' : gF (sL s 66 2 (nL (nx a.sd))) 67 0 = nI T := f0
  rw [Fo_pass_L19, if_neg hi, Sh_suits, bindV_some, f1', e1, bindP_some, Sh_trees, bindV_some, f0', e2, bindP_some, e3, bindV_some]
  rw [stA]
  cases okA σ N T a with
  | false =>
    rw [if_pos (by rfl), if_neg (by decide), passYear67 (σ := sL s 66 2 (nL (nx (nx a.sd)))) (T := T) f0 hT3 hfu, bindV_some, nI_1]
    refine ⟨_, rfl, by rw [vw_sF (by rfl), vw_yrA (by rfl), vw_sL]; exact v, ⟨f0, f1⟩, ?_, ?_, ?_, fun j hj => ⟨?_, (fb j hj).2⟩, fa⟩
    · rw [r_of]; exact fr
    · rw [cn_of]; exact fc
    · rw [sd_of]; exact gL_sL1 s 66 2 (nL (nx (nx a.sd)))
    show (if 69 = 69 ∧ j < T then yv (gA s 69 j) (gA s 71 j) else gA s 69 j) = if j < T then yv (a.be j) (gA σ 9 j) else a.be j
    rw [(fb j hj).1, (fb j hj).2]
    simp
  | true =>
    obtain ⟨a1, a2, a3, a4, a5, a6⟩ := fa (nx a.sd / 65536 % N) (by omega)
    rw [if_neg (by decide), if_pos rfl, pluck67 (by omega) (by omega), bindV_some, nI_1]
    have g73 : ∀ (x y z : Int32) k, k ≠ 69 → gA (sF (sF (sA (sL s 66 2 (nL (nx (nx a.sd)))) 69 (nx (nx a.sd) / 65536 % T) x) 67 11 y) 67 13 z) k = gA s k := by
      intro x y z k hk
      rw [gA_sF1, gA_sF1, gA_sA_other hk]
      rfl
    refine ⟨_, rfl, by rw [vw_sF (by rfl), vw_sF (by rfl), vw_sA (by rfl), vw_sL]; exact v, ⟨?_, ?_⟩, ?_, ?_, ?_, fun j hj => ⟨?_, ?_⟩, fun j hj => ?_⟩
    · rw [gF_sF, if_neg (by decide), gF_sF, if_neg (by decide)]; exact f0
    · rw [gF_sF, if_neg (by decide), gF_sF, if_neg (by decide)]; exact f1
    · show (gF s 67 11 ||| bitI (nx a.sd / 65536 % N)) &&& (gA s 83 (nx a.sd / 65536 % N) ^^^ (-1)) = _
      rw [fr, a6]
      rfl
    · show gF s 67 13 + 1 = gF σ 5 13 + (a.cn + 1)
      rw [fc, Int32.add_assoc]
    · exact gL_sL1 s 66 2 (nL (nx (nx a.sd)))
    · show (if 69 = 69 ∧ j = nx (nx a.sd) / 65536 % T then gA s 69 (nx (nx a.sd) / 65536 % T) - costS (gA s 73 (nx a.sd / 65536 % N)) (gA s 75 (nx a.sd / 65536 % N)) (gA s 81 (nx a.sd / 65536 % N)) else gA s 69 j) = if j = nx (nx a.sd) / 65536 % T then a.be j - coA σ (nx a.sd / 65536 % N) else a.be j
      rw [a1, a2, a5, (fb j hj).1]
      by_cases q : j = nx (nx a.sd) / 65536 % T
      · rw [if_pos (And.intro rfl q), if_pos q, ← q, (fb j hj).1, coA, q]
      · rw [if_neg (fun z => q z.2), if_neg q]
    · rw [g73 _ _ _ 71 (by decide)]; exact (fb j hj).2
    · rw [g73 _ _ _ 73 (by decide), g73 _ _ _ 75 (by decide), g73 _ _ _ 77 (by decide), g73 _ _ _ 79 (by decide), g73 _ _ _ 81 (by decide), g73 _ _ _ 83 (by decide)]; exact fa j hj
theorem Fo_pass_is {σ : Sg} {N T fu k ti : Nat} (hfu : 1000 ≤ fu) (hn : gF σ 5 1 = nI N) (ht : gF σ 5 0 = nI T) (hN : 0 < N) (hN7 : N ≤ 7) (hT : 0 < T) (hT3 : T ≤ 3) (hk : k < 2147483648) (hti : ti ≤ 60) : ∃ s, Fo_pass fu σ (nI ti) (nI k) = some s ∧ RC σ N T (itA σ N T k ti) s := by
  rw [Fo_pass, copyFrom67_5 hfu, bindV_some, toL hk]
  obtain ⟨s, h1, h2⟩ := loop_ex (N := ti) (L := fun n (s : Sg) i => Fo_pass_L19 fu (nI ti) (fun l3_13 s14 => some s14) n i s) (kont := fun s _ => some s) (fun i s => RC σ N T (itA σ N T k i) s) (by
    intro n s i hi h
    exact RC_step hfu hN hN7 hT hT3 (itA_sd hk i) h (nI ti) _ n i (nI_ge hi (by omega))) (by
    intro n s _
    show Fo_pass_L19 fu (nI ti) _ (n + 1) (nI ti) s = _
    rw [Fo_pass_L19, if_pos (Int32.le_refl _)]) ti fu (sL (coS σ 67 5) 66 2 (nL k)) 0 (Nat.zero_add _) (by omega) (by
    refine ⟨?_, ⟨ht, hn⟩, rfl, (Int32.add_zero _).symm, gL_sL1 _ _ _ _, ?_, ?_⟩
    · rw [vw_sL]
      refine Prod.ext ?_ (Prod.ext ?_ rfl)
      · funext a b
        show (if relF a b = true then (coS σ 67 5).1 a b else 0) = if relF a b = true then σ.1 a b else 0
        by_cases hr : relF a b = true
        · rw [if_pos hr, if_pos hr]
          have n1 : a ≠ 67 := by rintro rfl; revert hr; simp [relF]
          have n2 : a ≠ 84 := by rintro rfl; revert hr; simp [relF]
          simp [coS, n1, n2]
        · rw [if_neg hr, if_neg hr]
      · funext a b
        show (if relA a = true then (coS σ 67 5).2.1 a b else 0) = if relA a = true then σ.2.1 a b else 0
        by_cases hr : relA a = true
        · rw [if_pos hr, if_pos hr]
          have hh : a ≤ 52 ∨ 91 ≤ a := by
            rw [relA] at hr
            simp at hr
            omega
          have n1 : ∀ q, 53 ≤ q → q ≤ 90 → a ≠ q := fun q h1 h2 => by omega
          simp [coS, n1 69 (by decide) (by decide), n1 71 (by decide) (by decide), n1 73 (by decide) (by decide), n1 75 (by decide) (by decide), n1 77 (by decide) (by decide), n1 79 (by decide) (by decide), n1 81 (by decide) (by decide), n1 83 (by decide) (by decide), n1 86 (by decide) (by decide), n1 88 (by decide) (by decide), n1 90 (by decide) (by decide)]
        · rw [if_neg hr, if_neg hr]
    · intro i hi
      exact ⟨by show (coS σ 67 5).2.1 69 i = _; simp [coS, hi]; rfl, by show (coS σ 67 5).2.1 71 i = _; simp [coS, hi]; rfl⟩
    · intro i hi
      exact ⟨by show (coS σ 67 5).2.1 73 i = _; simp [coS, hi]; rfl, by show (coS σ 67 5).2.1 75 i = _; simp [coS, hi]; rfl, by show (coS σ 67 5).2.1 77 i = _; simp [coS, hi]; rfl, by show (coS σ 67 5).2.1 79 i = _; simp [coS, hi]; rfl, by show (coS σ 67 5).2.1 81 i = _; simp [coS, hi]; rfl, by show (coS σ 67 5).2.1 83 i = _; simp [coS, hi]; rfl⟩)
  exact ⟨s, h2, h1⟩
