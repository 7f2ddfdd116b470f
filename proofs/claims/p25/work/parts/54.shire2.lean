/-! THE SHIRE READ IN: both sides -/
def mk (pF : Nat → Nat → Bool) (pA : Nat → Bool) (σ : Sg) : Sg := (fun k j => if pF k j = true then σ.1 k j else 0, fun k i => if pA k = true then σ.2.1 k i else 0, fun _ _ => 0)
theorem mk_sF {pF : Nat → Nat → Bool} {pA : Nat → Bool} {σ : Sg} {k j : Nat} {v : Int32} (h : pF k j = false) : mk pF pA (sF σ k j v) = mk pF pA σ := by
  refine Prod.ext ?_ rfl
  funext a b
  show (if pF a b = true then (if a = k ∧ b = j then v else σ.1 a b) else 0) = if pF a b = true then σ.1 a b else 0
  by_cases hr : pF a b = true
  · rw [if_pos hr, if_pos hr, if_neg]
    rintro ⟨rfl, rfl⟩
    rw [h] at hr
    cases hr
  · rw [if_neg hr, if_neg hr]
theorem mk_sA {pF : Nat → Nat → Bool} {pA : Nat → Bool} {σ : Sg} {k i : Nat} {v : Int32} (h : pA k = false) : mk pF pA (sA σ k i v) = mk pF pA σ := by
  refine Prod.ext rfl (Prod.ext ?_ rfl)
  funext a b
  show (if pA a = true then (if a = k ∧ b = i then v else σ.2.1 a b) else 0) = if pA a = true then σ.2.1 a b else 0
  by_cases hr : pA a = true
  · rw [if_pos hr, if_pos hr, if_neg]
    rintro ⟨rfl, -⟩
    rw [h] at hr
    cases hr
  · rw [if_neg hr, if_neg hr]
theorem mk_gF {pF : Nat → Nat → Bool} {pA : Nat → Bool} {s σ : Sg} (h : mk pF pA s = mk pF pA σ) {k j : Nat} (hr : pF k j = true) : gF s k j = gF σ k j := by
  have e : (mk pF pA s).1 k j = (mk pF pA σ).1 k j := by rw [h]
  have e1 : ∀ τ : Sg, (mk pF pA τ).1 k j = gF τ k j := fun τ => by
    show (if pF k j = true then τ.1 k j else 0) = τ.1 k j
    rw [if_pos hr]
  rw [e1, e1] at e
  exact e
theorem mk_gA {pF : Nat → Nat → Bool} {pA : Nat → Bool} {s σ : Sg} (h : mk pF pA s = mk pF pA σ) {k : Nat} (hr : pA k = true) : gA s k = gA σ k := by
  funext i
  have e : (mk pF pA s).2.1 k i = (mk pF pA σ).2.1 k i := by rw [h]
  have e1 : ∀ τ : Sg, (mk pF pA τ).2.1 k i = gA τ k i := fun τ => by
    show (if pA k = true then τ.2.1 k i else 0) = τ.2.1 k i
    rw [if_pos hr]
  rw [e1, e1] at e
  exact e
theorem mk_ext {pF : Nat → Nat → Bool} {pA : Nat → Bool} {s σ : Sg} (h1 : gF s = gF σ) (h2 : ∀ a, pA a = true → gA s a = gA σ a) : mk pF pA s = mk pF pA σ := by
  refine Prod.ext ?_ (Prod.ext ?_ rfl)
  · funext a b
    show (if pF a b = true then s.1 a b else 0) = if pF a b = true then σ.1 a b else 0
    rw [show s.1 a b = σ.1 a b from congrFun (congrFun h1 a) b]
  · funext a b
    show (if pA a = true then s.2.1 a b else 0) = if pA a = true then σ.2.1 a b else 0
    by_cases hr : pA a = true
    · rw [if_pos hr, if_pos hr]; exact congrFun (h2 a hr) b
    · rw [if_neg hr, if_neg hr]
def pFc (k j : Nat) : Bool := !(k == 5) && !(k == 22 && j == 3)
def pAc (k : Nat) : Bool := !(k == 7 || k == 9 || k == 11 || k == 13 || k == 15 || k == 17 || k == 19 || k == 21)
/-- a row as it stands when its first n are read -/
def up (n : Nat) (f g : Nat → Int32) (x : Nat) : Int32 := if x < n then f x else g x
theorem up_put (n : Nat) (f g h : Nat → Int32) (v : Int32) (hh : h = up n f g) (hv : v = f n) : (fun j => if j = n then v else h j) = up (n + 1) f g := by
  funext j
  rw [hh, hv, up, up]
  by_cases q : j = n
  · rw [if_pos q, if_pos (by omega), q]
  · rw [if_neg q]
    by_cases q2 : j < n
    · rw [if_pos q2, if_pos (by omega)]
    · rw [if_neg q2, if_neg (by omega)]
def trB (pg : Nat → Int32) (x : Nat) : Int32 := pg (3 * x) - 48
def trD (pg : Nat → Int32) (x : Nat) : Int32 := pg (3 * x + 1) - 48
def csK (pg : Nat → Int32) (t x : Nat) : Int32 := kIndex (pg (3 * t + 5 * x))
def csN (pg : Nat → Int32) (t x : Nat) : Int32 := pg (3 * t + 5 * x + 1) - 48
def csW (pg : Nat → Int32) (t x : Nat) : Int32 := pg (3 * t + 5 * x + 2) - 48
def csH (pg : Nat → Int32) (t x : Nat) : Int32 := if pg (3 * t + 5 * x + 3) = 45 then -1 else pg (3 * t + 5 * x + 3) - 48
def Cls (s0 s : Sg) (pg : Nat → Int32) (t i j : Nat) : Prop := mk pFc pAc s = mk pFc pAc s0 ∧ (gF s 5 0 = nI i ∧ gF s 5 1 = nI j ∧ gF s 5 11 = 0 ∧ gF s 5 12 = 0 ∧ gF s 5 13 = 0 ∧ gF s 22 3 = 0) ∧ (gA s 7 = up i (trB pg) (gA s0 7) ∧ gA s 9 = up i (trD pg) (gA s0 9)) ∧ (gA s 11 = up j (csK pg t) (gA s0 11) ∧ gA s 13 = up j (csN pg t) (gA s0 13) ∧ gA s 15 = up j (csW pg t) (gA s0 15) ∧ gA s 17 = up j (csH pg t) (gA s0 17)) ∧ ∀ c, c < j → gA s 19 c = strS (gA s 17) j c ∧ gA s 21 c = allS (gA s 17) j c
theorem up_0 (f g : Nat → Int32) : up 0 f g = g := by funext x; rw [up, if_neg (by omega)]
theorem nI_3m (l : Nat) : (3 : Int32) * nI l = nI (3 * l) := nI_mul 3 l
theorem nI_5m (l : Nat) : (5 : Int32) * nI l = nI (5 * l) := nI_mul 5 l
theorem Pg_digit_is {s : Sg} {l : Nat} (hl : l < 46) : Pg_digit s (nI l) = some (gA s 3 l - 48) := by
  rw [Pg_digit, Rw_at_in (n := 46) rfl hl (by decide), bindV_some]
theorem Pg_code_is {s : Sg} {l : Nat} (hl : l < 46) : Pg_code s (nI l) = some (gA s 3 l) := by
  rw [Pg_code, Rw_at_in (n := 46) rfl hl (by decide), bindV_some]
theorem add_tree {s0 s : Sg} {pg : Nat → Int32} {t i : Nat} (hi : i < 3) (h : Cls s0 s pg t i 0) : ∃ s', Sh_addTree s 5 (trB pg i) (trD pg i) = some s' ∧ Cls s0 s' pg t (i + 1) 0 := by
  obtain ⟨v, ⟨f0, f1, f2, f3, f4, f5⟩, ⟨a1, a2⟩, a3, a4⟩ := h
  have e0 : ∀ v, gF (sA s 7 i v) 5 0 = nI i := fun v => f0
  have e1 : ∀ v w, gF (sA (sA s 7 i v) 9 i w) 5 0 = nI i := fun v w => f0
  refine ⟨sF (sA (sA s 7 i (trB pg i)) 9 i (trD pg i)) 5 0 (nI (i + 1)), ?_, ?_, ?_, ?_, a3, fun c hc => absurd hc (by omega)⟩
  · rw [Sh_addTree, f0, Rw_put_in (n := 3) rfl hi (by decide), bindV_some, e0, Rw_put_in (n := 3) rfl hi (by decide), bindV_some, e1, nI_1]
  · rw [mk_sF (by rfl), mk_sA (by rfl), mk_sA (by rfl)]; exact v
  · exact ⟨by rw [gF_sF, if_pos (And.intro rfl rfl)], by rw [gF_sF, if_neg (by decide)]; exact f1, by rw [gF_sF, if_neg (by decide)]; exact f2, by rw [gF_sF, if_neg (by decide)]; exact f3, by rw [gF_sF, if_neg (by decide)]; exact f4, by rw [gF_sF, if_neg (by decide)]; exact f5⟩
  · refine ⟨?_, ?_⟩
    · rw [gA_sF1, gA_sA_other (by decide), gA_sA_same]
      exact up_put i _ _ _ _ a1 rfl
    · rw [gA_sF1, gA_sA_same, gA_sA_other (by decide)]
      exact up_put i _ _ _ _ a2 rfl
theorem fo_same {f g : Nat → Int32} {n : Nat} {F : (Nat → Int32) → Nat → Int32 → Int32} (h : ∀ i, i < n → f i = g i) (hF : ∀ i a, f i = g i → F f i a = F g i a) (m i : Nat) (hm : i + m ≤ n) (a : Int32) : fo (F f) m i a = fo (F g) m i a :=
  fo_cong m i a (fun j b h1 h2 => hF j b (h j (by omega)))
theorem strS_cong {f g : Nat → Int32} {n : Nat} (h : ∀ i, i < n → f i = g i) (c : Nat) : strS f n c = strS g n c :=
  fo_cong n 0 0 (fun j b h1 h2 => by rw [h j (by omega)])
theorem allS_cong {f g : Nat → Int32} {n : Nat} (h : ∀ i, i < n → f i = g i) (c : Nat) (hc : c < n) : allS f n c = allS g n c :=
  fo_cong (n - (c + 1)) (c + 1) 0 (fun j b h1 h2 => by rw [h j (by omega)])
theorem strS_succ (f : Nat → Int32) (n c : Nat) : strS f (n + 1) c = strS f n c + (if f n = nI c then 1 else 0) := by
  rw [strS, fo_succ, Nat.zero_add]
  rfl
theorem allS_succ (f : Nat → Int32) {n c : Nat} (hc : c < n) : allS f (n + 1) c = allS f n c ||| (if f n = nI c then bitI n else if f n = -1 then 0 else if hasX (allS f n c) (f n) then bitI n else 0) := by
  rw [allS, show n + 1 - (c + 1) = (n - (c + 1)) + 1 by omega, fo_succ, show c + 1 + (n - (c + 1)) = n by omega]
  rfl
theorem strS_none {f : Nat → Int32} {c : Nat} (hc : c < 2147483648) : ∀ n, n < 2147483648 → (∀ i, i < n → f i = -1 ∨ ∃ g, g < c ∧ f i = nI g) → strS f n c = 0
  | 0, _, _ => rfl
  | n + 1, hn, h => by
    rw [strS_succ, strS_none hc n (by omega) (fun i hi => h i (by omega)), if_neg]
    · rfl
    · rcases h n (by omega) with q | ⟨g, g1, g2⟩
      · rw [q]; exact fun z => nI_nem1 hc z.symm
      · rw [g2]; exact fun z => by have := (nI_inj (by omega) (by omega)).mp z; omega
theorem add_suit {s0 s : Sg} {pg : Nat → Int32} {t j fu : Nat} (hfu : 1000 ≤ fu) (hj : j < 7) (hH : ∀ i, i < j + 1 → csH pg t i = -1 ∨ ∃ g, g < i ∧ csH pg t i = nI g) (h : Cls s0 s pg t t j) : ∃ s', Sh_addSuit fu s 5 (csK pg t j) (csN pg t j) (csW pg t j) (csH pg t j) = some s' ∧ Cls s0 s' pg t t (j + 1) := by
  obtain ⟨v, ⟨f0, f1, f2, f3, f4, f5⟩, ⟨a1, a2⟩, ⟨a3, a4, a5, a6⟩, a7⟩ := h
  -- behind the six rows' puts
  generalize hs6 : sA (sA (sA (sA (sA (sA s 11 j (csK pg t j)) 13 j (csN pg t j)) 15 j (csW pg t j)) 17 j (csH pg t j)) 19 j 0) 21 j 0 = s6
  have b0 : gF s6 = gF s := by rw [← hs6]; rfl
  have bL : gL s6 = gL s := by rw [← hs6]; rfl
  have bo : ∀ a, a ≠ 11 → a ≠ 13 → a ≠ 15 → a ≠ 17 → a ≠ 19 → a ≠ 21 → gA s6 a = gA s a := by
    intro a q1 q2 q3 q4 q5 q6
    rw [← hs6, gA_sA_other q6, gA_sA_other q5, gA_sA_other q4, gA_sA_other q3, gA_sA_other q2, gA_sA_other q1]
  have b11 : gA s6 11 = up (j + 1) (csK pg t) (gA s0 11) := by
    rw [← hs6, gA_sA_other (by decide), gA_sA_other (by decide), gA_sA_other (by decide), gA_sA_other (by decide), gA_sA_other (by decide), gA_sA_same]
    exact up_put j _ _ _ _ a3 rfl
  have b13 : gA s6 13 = up (j + 1) (csN pg t) (gA s0 13) := by
    rw [← hs6, gA_sA_other (by decide), gA_sA_other (by decide), gA_sA_other (by decide), gA_sA_other (by decide), gA_sA_same, gA_sA_other (by decide)]
    exact up_put j _ _ _ _ a4 rfl
  have b15 : gA s6 15 = up (j + 1) (csW pg t) (gA s0 15) := by
    rw [← hs6, gA_sA_other (by decide), gA_sA_other (by decide), gA_sA_other (by decide), gA_sA_same, gA_sA_other (by decide), gA_sA_other (by decide)]
    exact up_put j _ _ _ _ a5 rfl
  have b17 : gA s6 17 = up (j + 1) (csH pg t) (gA s0 17) := by
    rw [← hs6, gA_sA_other (by decide), gA_sA_other (by decide), gA_sA_same, gA_sA_other (by decide), gA_sA_other (by decide), gA_sA_other (by decide)]
    exact up_put j _ _ _ _ a6 rfl
  have b19 : gA s6 19 = fun x => if x = j then 0 else gA s 19 x := by
    rw [← hs6, gA_sA_other (by decide), gA_sA_same, gA_sA_other (by decide), gA_sA_other (by decide), gA_sA_other (by decide), gA_sA_other (by decide)]
  have b21 : gA s6 21 = fun x => if x = j then 0 else gA s 21 x := by
    rw [← hs6, gA_sA_same, gA_sA_other (by decide), gA_sA_other (by decide), gA_sA_other (by decide), gA_sA_other (by decide), gA_sA_other (by decide)]
  have hold : ∀ i, i < j → gA s 17 i = csH pg t i := fun i hi => by rw [a6, up, if_pos hi]
  have hnew : ∀ i, i < j + 1 → gA s6 17 i = csH pg t i := fun i hi => by rw [b17, up, if_pos hi]
  have hsum : Sh_addSuit fu s 5 (csK pg t j) (csN pg t j) (csW pg t j) (csH pg t j) = bindV (Rw_at s6 18 (csH pg t j)) fun r7 => bindV (Rw_put s6 18 (csH pg t j) (r7 + (1 : Int32))) fun s8 => Sh_addSuit_L94 fu 5 (nI j) (fun _ _ s17 => some (sF s17 5 1 ((gF s17 5 1) + (1 : Int32)))) fu (csH pg t j) (0 : Int32) s8 := by
    rw [Sh_addSuit, f1, Rw_put_in (n := 7) rfl hj (by decide), bindV_some, Rw_put_in (n := 7) rfl hj (by decide), bindV_some, Rw_put_in (n := 7) rfl hj (by decide), bindV_some, Rw_put_in (n := 7) rfl hj (by decide), bindV_some, Rw_put_in (n := 7) rfl hj (by decide), bindV_some, Rw_put_in (n := 7) rfl hj (by decide), bindV_some, hs6]
  have hok : ∀ i, i < j → csH pg t i = -1 ∨ ∃ g, g < i ∧ csH pg t i = nI g := fun i hi => hH i (by omega)
  have hallE : ∀ c, c < j → allS (gA s 17) j c = allS (csH pg t) j c := fun c hc => allS_cong hold c hc
  have hstrE : ∀ c, strS (gA s 17) j c = strS (csH pg t) j c := fun c => strS_cong hold c
  have hstrJ : strS (csH pg t) (j + 1) j = 0 := strS_none (by omega) (j + 1) (by omega) (fun i hi => by
    rcases hH i hi with q | ⟨g, g1, g2⟩
    · exact Or.inl q
    · exact Or.inr ⟨g, by omega, g2⟩)
  have hallJ : ∀ f : Nat → Int32, allS f (j + 1) j = 0 := fun f => by rw [allS, Nat.sub_self]; rfl
  -- what is wanted of the end
  have done : ∀ s9, gF s9 = gF s6 → (∀ a, a ≠ 19 → a ≠ 21 → gA s9 a = gA s6 a) → (∀ c, c < j + 1 → gA s9 19 c = strS (csH pg t) (j + 1) c ∧ gA s9 21 c = allS (csH pg t) (j + 1) c) → Cls s0 (sF s9 5 1 ((gF s9 5 1) + (1 : Int32))) pg t t (j + 1) := by
    intro s9 w1 w2 w3
    have g51 : gF s9 5 1 = nI j := by rw [w1, b0]; exact f1
    have hk : ∀ k i, gF s9 k i = gF s k i := fun k i => by rw [w1, b0]
    refine ⟨?_, ⟨by rw [gF_sF, if_neg (by decide), hk]; exact f0, by rw [gF_sF, if_pos (And.intro rfl rfl), g51, nI_1], by rw [gF_sF, if_neg (by decide), hk]; exact f2, by rw [gF_sF, if_neg (by decide), hk]; exact f3, by rw [gF_sF, if_neg (by decide), hk]; exact f4, by rw [gF_sF, if_neg (by decide), hk]; exact f5⟩, ⟨?_, ?_⟩, ⟨?_, ?_, ?_, ?_⟩, ?_⟩
    · rw [mk_sF (by rfl)]
      refine (mk_ext (σ := s) (by rw [w1, b0]) (fun a ha => ?_)).trans v
      have hn : ∀ q, pAc q = false → a ≠ q := fun q hq z => by rw [z, hq] at ha; cases ha
      rw [w2 a (hn 19 (by rfl)) (hn 21 (by rfl)), bo a (hn 11 (by rfl)) (hn 13 (by rfl)) (hn 15 (by rfl)) (hn 17 (by rfl)) (hn 19 (by rfl)) (hn 21 (by rfl))]
    · rw [gA_sF1, w2 7 (by decide) (by decide), bo 7 (by decide) (by decide) (by decide) (by decide) (by decide) (by decide)]; exact a1
    · rw [gA_sF1, w2 9 (by decide) (by decide), bo 9 (by decide) (by decide) (by decide) (by decide) (by decide) (by decide)]; exact a2
    · rw [gA_sF1, w2 11 (by decide) (by decide)]; exact b11
    · rw [gA_sF1, w2 13 (by decide) (by decide)]; exact b13
    · rw [gA_sF1, w2 15 (by decide) (by decide)]; exact b15
    · rw [gA_sF1, w2 17 (by decide) (by decide)]; exact b17
    · intro c hc
      rw [gA_sF1, gA_sF1, gA_sF1, w2 17 (by decide) (by decide), strS_cong hnew c, allS_cong hnew c hc]
      exact w3 c hc
  rw [hsum]
  rcases hH j (by omega) with q | ⟨h, h1, h2⟩
  · have r1 : Rw_at s6 18 (csH pg t j) = some 0 := by rw [q, Rw_at, if_pos (by decide)]
    have r2 : ∀ w, Rw_put s6 18 (csH pg t j) w = some s6 := fun w => by rw [q, Rw_put, if_pos (by decide)]
    obtain ⟨fu', hfe⟩ : ∃ k, fu = k + 1 := ⟨fu - 1, by omega⟩
    rw [r1, bindV_some, r2, bindV_some, q, hfe, Sh_addSuit_L94, if_neg (by decide), if_pos rfl]
    refine ⟨_, rfl, done s6 rfl (fun _ _ _ => rfl) (fun c hc => ?_)⟩
    rw [b19, b21]
    show (if c = j then 0 else gA s 19 c) = _ ∧ (if c = j then 0 else gA s 21 c) = _
    by_cases qc : c = j
    · rw [if_pos qc, if_pos qc, qc, hstrJ, hallJ]
      exact ⟨rfl, rfl⟩
    · rw [if_neg qc, if_neg qc, (a7 c (by omega)).1, (a7 c (by omega)).2, hstrE, hallE c (by omega), strS_succ, allS_succ _ (show c < j by omega), q, if_neg (fun z => nI_nem1 (show c < 2147483648 by omega) z.symm), if_neg (fun z => nI_nem1 (show c < 2147483648 by omega) z.symm), if_pos rfl, or0, Int32.add_zero]
      exact ⟨rfl, rfl⟩
  · have r1 : Rw_at s6 18 (csH pg t j) = some (gA s6 19 h) := by rw [h2]; exact Rw_at_in (r := 18) (n := 7) rfl (by omega) (by decide)
    have r2 : ∀ w, Rw_put s6 18 (csH pg t j) w = some (sA s6 19 h w) := fun w => by rw [h2]; exact Rw_put_in (r := 18) (n := 7) rfl (by omega) (by decide)
    rw [r1, bindV_some, r2, bindV_some, h2]
    obtain ⟨s9, w1, w2, w3, w3', w4, w5⟩ := walk_up (fu := fu) (ha := csH pg t) hj hok (fun s17 => some (sF s17 5 1 ((gF s17 5 1) + (1 : Int32)))) h 0 fu (sA s6 19 h (gA s6 19 h + 1)) h1 (by omega) (by omega) (fun i hi => by rw [gA_sA_other (by decide)]; exact hnew i (by omega))
    refine ⟨_, w1, done s9 (by rw [w3]; rfl) (fun a q1 q2 => by rw [w2 a q2, gA_sA_other q1]) (fun c hc => ?_)⟩
    have e19 : gA s9 19 c = if c = h then gA s6 19 h + 1 else gA s6 19 c := by rw [w2 19 (by decide), gA_sA_same]
    by_cases qc : c = j
    · subst qc
      rw [e19, if_neg (by omega), b19, w5 c (Nat.le_refl c), gA_sA_other (by decide), b21]
      show (if c = c then 0 else gA s 19 c) = _ ∧ (if c = c then 0 else gA s 21 c) = _
      rw [if_pos rfl, if_pos rfl, hstrJ, hallJ]
      exact ⟨rfl, rfl⟩
    · have hcj : c < j := by omega
      have e6 : gA s6 19 c = strS (csH pg t) j c := by
        rw [b19]
        show (if c = j then 0 else gA s 19 c) = _
        rw [if_neg qc, (a7 c hcj).1, hstrE]
      have e6' : gA s6 21 c = allS (csH pg t) j c := by
        rw [b21]
        show (if c = j then 0 else gA s 21 c) = _
        rw [if_neg qc, (a7 c hcj).2, hallE c hcj]
      constructor
      · rw [e19, strS_succ, h2]
        by_cases qh : c = h
        · rw [if_pos qh, if_pos (by rw [qh]), ← qh, e6]
        · rw [if_neg qh, if_neg (fun z => qh ((nI_inj (by omega) (by omega)).mp z.symm)), e6, Int32.add_zero]
      · rw [w4 c hcj, gA_sA_other (by decide), e6', allS_succ _ hcj, h2, if_neg (nI_nem1 (show h < 2147483648 by omega)), hasX_bt _ (by omega)]
        by_cases qh : c = h
        · rw [if_pos (Or.inl qh), if_pos (by rw [qh])]
        · have hne : ¬ nI h = nI c := fun z => qh ((nI_inj (by omega) (by omega)).mp z.symm)
          cases hb : bt (allS (csH pg t) j c) h with
          | false => rw [if_neg (show ¬ (c = h ∨ false = true) by simp [qh]), if_neg hne, ifF]
          | true => rw [if_pos (show c = h ∨ true = true from Or.inr rfl), if_neg hne, ifT]

/-! THE SHIRE READ IN: the calls -/
theorem fig_valk : ∀ k, k < 8 → ∀ m, m < 127 → fig (nI m) 0 (nI k - 1) = true → 48 ≤ m ∧ m - 48 < k := by decide +kernel
theorem fig_val0 : ∀ m, m < 127 → fig (nI m) 0 9 = true → 48 ≤ m ∧ m - 48 ≤ 9 := by decide +kernel
theorem fig_val1 : ∀ m, m < 127 → fig (nI m) 1 9 = true → 48 ≤ m ∧ m - 48 ≤ 9 := by decide +kernel
theorem kd_val : ∀ m, m < 127 → kdB (nI m) = true → (List.range 5).any (fun d => kIndex (nI m) == nI d) = true := by decide +kernel
theorem sub48 {m : Nat} (h : 48 ≤ m) : nI m - 48 = nI (m - 48) := pk_sub (b := 48) h
theorem csH_ok {pg : Nat → Int32} {P t i : Nat} (hpg : pgOK pg P) (hp : 3 * t + 5 * i + 3 < P) (hi : i < 7) (h : caseOK pg (3 * t + 5 * i) i) : csH pg t i = -1 ∨ ∃ g, g < i ∧ csH pg t i = nI g := by
  obtain ⟨-, -, -, h4⟩ := h
  by_cases q : pg (3 * t + 5 * i + 3) = 45
  · exact Or.inl (if_pos q)
  · have e : (pg (3 * t + 5 * i + 3) == 45) = false := by simpa using q
    rw [e, Bool.false_or] at h4
    obtain ⟨c, c1, c2, c3⟩ := hpg.2 _ hp
    rw [c1] at h4
    obtain ⟨v1, v2⟩ := fig_valk i (by omega) c (by omega) h4
    refine Or.inr ⟨c - 48, v2, ?_⟩
    rw [csH, if_neg q, c1, sub48 v1]
theorem readInto_is {s1 : Sg} {P t k fu : Nat} (hfu : 1000 ≤ fu) (hpg : pgOK (gA s1 3) P) (h2 : gF s1 4 2 = nI t) (h3 : gF s1 4 3 = nI k) (ht : t ≤ 3) (hk : k ≤ 7) (hP : P + 1 = 3 * t + 5 * k) (hc : ∀ j, j < k → caseOK (gA s1 3) (3 * t + 5 * j) j) : ∃ s, Rd_readInto fu s1 5 = some s ∧ Cls s1 s (gA s1 3) t t k := by
  have h46 := hpg.1
  have keep : ∀ s, mk pFc pAc s = mk pFc pAc s1 → gF s 4 2 = nI t ∧ gF s 4 3 = nI k ∧ gA s 3 = gA s1 3 := fun s v => ⟨by rw [mk_gF v (by rfl)]; exact h2, by rw [mk_gF v (by rfl)]; exact h3, mk_gA v (by rfl)⟩
  have hb : Sh_begin s1 5 = some (sF (sF (sF (sF (sF (sF s1 5 0 (0 : Int32)) 5 1 (0 : Int32)) 5 11 (0 : Int32)) 5 12 (0 : Int32)) 5 13 (0 : Int32)) 22 3 (0 : Int32)) := rfl
  rw [Rd_readInto, hb, bindV_some]
  generalize hs0 : sF (sF (sF (sF (sF (sF s1 5 0 (0 : Int32)) 5 1 (0 : Int32)) 5 11 (0 : Int32)) 5 12 (0 : Int32)) 5 13 (0 : Int32)) 22 3 (0 : Int32) = s0
  have c0 : Cls s1 s0 (gA s1 3) t 0 0 := by
    rw [← hs0]
    exact ⟨by rw [mk_sF (by rfl), mk_sF (by rfl), mk_sF (by rfl), mk_sF (by rfl), mk_sF (by rfl), mk_sF (by rfl)], ⟨rfl, rfl, rfl, rfl, rfl, rfl⟩, ⟨by rw [up_0]; rfl, by rw [up_0]; rfl⟩, ⟨by rw [up_0]; rfl, by rw [up_0]; rfl, by rw [up_0]; rfl, by rw [up_0]; rfl⟩, fun c hc => absurd hc (by omega)⟩
  obtain ⟨sT, cT, eT⟩ := loop_ex (N := t) (L := fun n (s : Sg) i => Rd_readInto_L11 fu 5 (fun l2_6 s7 => Rd_readInto_L53 fu 5 (fun l2_19 s20 => some s20) fu (0 : Int32) s7) n i s) (kont := fun s7 _ => Rd_readInto_L53 fu 5 (fun l2_19 s20 => some s20) fu (0 : Int32) s7) (fun i s => Cls s1 s (gA s1 3) t i 0) (by
    intro n s i hi h
    obtain ⟨k1, k2, k3⟩ := keep s h.1
    obtain ⟨s', e, h'⟩ := add_tree (by omega) h
    refine ⟨s', ?_, h'⟩
    show Rd_readInto_L11 fu 5 _ (n + 1) (nI i) s = _
    rw [Rd_readInto_L11, k1, if_neg (nI_ge hi (by omega)), nI_3m, Pg_digit_is (by omega), bindV_some, nI_1, Pg_digit_is (by omega), bindV_some, k3]
    show (bindV (Sh_addTree s 5 (trB (gA s1 3) i) (trD (gA s1 3) i)) fun s5 => _) = _
    rw [e, bindV_some, nI_1]) (by
    intro n s h
    obtain ⟨k1, k2, k3⟩ := keep s h.1
    show Rd_readInto_L11 fu 5 _ (n + 1) (nI t) s = _
    rw [Rd_readInto_L11, k1, if_pos (Int32.le_refl _)]) t fu s0 0 (Nat.zero_add _) (by omega) c0
  have eT' : Rd_readInto_L11 fu 5 (fun l2_6 s7 => Rd_readInto_L53 fu 5 (fun l2_19 s20 => some s20) fu (0 : Int32) s7) fu (0 : Int32) s0 = Rd_readInto_L53 fu 5 (fun l2_19 s20 => some s20) fu (0 : Int32) sT := eT
  rw [eT']
  obtain ⟨sK, cK, eK⟩ := loop_ex (N := k) (L := fun n (s : Sg) i => Rd_readInto_L53 fu 5 (fun l2_19 s20 => some s20) n i s) (kont := fun s20 _ => some s20) (fun j s => Cls s1 s (gA s1 3) t t j) (by
    intro n s j hj h
    obtain ⟨k1, k2, k3⟩ := keep s h.1
    obtain ⟨s', e, h'⟩ := add_suit hfu (by omega) (fun i hi => csH_ok hpg (by omega) (by omega) (hc i (by omega))) h
    refine ⟨s', ?_, h'⟩
    obtain ⟨c, c1, c2, c3⟩ := hpg.2 (3 * t + 5 * j) (by omega)
    have ech : ((gA s1 3 (3 * t + 5 * j)).toUInt32 % 65536).toInt32 = gA s1 3 (3 * t + 5 * j) := by rw [c1]; exact char_is c (by omega)
    show Rd_readInto_L53 fu 5 _ (n + 1) (nI j) s = _
    rw [Rd_readInto_L53, k2, if_neg (nI_ge hj (by omega)), k1, nI_3m, nI_5m, nI_add, Pg_code_is (by omega), bindV_some, nI_p3, Pg_code_is (by omega), bindV_some, nI_1, nI_p2, Pg_digit_is (by omega), Pg_digit_is (by omega), Pg_digit_is (by omega), k3, ech]
    by_cases q : gA s1 3 (3 * t + 5 * j + 3) = 45
    · have eh : csH (gA s1 3) t j = -1 := if_pos q
      rw [eh] at e
      rw [if_neg (fun z => z q), bindV_some, bindV_some]
      show (bindV (Sh_addSuit fu s 5 (csK (gA s1 3) t j) (csN (gA s1 3) t j) (csW (gA s1 3) t j) (-1)) fun s18 => _) = _
      rw [e, bindV_some, nI_1]
    · have eh : csH (gA s1 3) t j = gA s1 3 (3 * t + 5 * j + 3) - 48 := if_neg q
      rw [eh] at e
      rw [if_pos q, bindV_some, bindV_some, bindV_some]
      show (bindV (Sh_addSuit fu s 5 (csK (gA s1 3) t j) (csN (gA s1 3) t j) (csW (gA s1 3) t j) (gA s1 3 (3 * t + 5 * j + 3) - 48)) fun s15 => _) = _
      rw [e, bindV_some, nI_1]) (by
    intro n s h
    obtain ⟨k1, k2, k3⟩ := keep s h.1
    show Rd_readInto_L53 fu 5 _ (n + 1) (nI k) s = _
    rw [Rd_readInto_L53, k2, if_pos (Int32.le_refl _)]) k fu sT 0 (Nat.zero_add _) (by omega) cT
  exact ⟨sK, eK, cK⟩
/-! THE SHIRE READ IN: the call -/
theorem rng_up {f g : Nat → Int32} {n m hi : Nat} (hf : ∀ i, i < n → ∃ b, f i = nI b ∧ b ≤ hi) (hg : rng g m hi) : rng (up n f g) m hi := by
  intro i him
  by_cases q : i < n
  · obtain ⟨b, b1, b2⟩ := hf i q
    exact ⟨b, by rw [up, if_pos q, b1], b2⟩
  · obtain ⟨b, b1, b2⟩ := hg i him
    exact ⟨b, by rw [up, if_neg q, b1], b2⟩
theorem tree_vals {pg : Nat → Int32} {P i : Nat} (hpg : pgOK pg P) (hp : 3 * i + 1 < P) (h : treeOK pg (3 * i)) : (∃ b, trB pg i = nI b ∧ b ≤ 9) ∧ ∃ b, trD pg i = nI b ∧ b ≤ 9 := by
  obtain ⟨h1, h2⟩ := h
  obtain ⟨c, c1, c2, c3⟩ := hpg.2 (3 * i) (by omega)
  obtain ⟨d, d1, d2, d3⟩ := hpg.2 (3 * i + 1) hp
  rw [c1] at h1
  rw [d1] at h2
  obtain ⟨u1, u2⟩ := fig_val0 c (by omega) h1
  obtain ⟨w1, w2⟩ := fig_val0 d (by omega) h2
  exact ⟨⟨c - 48, by rw [trB, c1, sub48 u1], u2⟩, ⟨d - 48, by rw [trD, d1, sub48 w1], w2⟩⟩
theorem case_vals {pg : Nat → Int32} {P t i : Nat} (hpg : pgOK pg P) (hp : 3 * t + 5 * i + 3 < P) (h : caseOK pg (3 * t + 5 * i) i) : (∃ b, csK pg t i = nI b ∧ b ≤ 4) ∧ (∃ b, csN pg t i = nI b ∧ b ≤ 9) ∧ ∃ b, csW pg t i = nI b ∧ b ≤ 9 := by
  obtain ⟨h0, h1, h2, -⟩ := h
  obtain ⟨b, b1, b2, b3⟩ := hpg.2 (3 * t + 5 * i) (by omega)
  obtain ⟨c, c1, c2, c3⟩ := hpg.2 (3 * t + 5 * i + 1) (by omega)
  obtain ⟨d, d1, d2, d3⟩ := hpg.2 (3 * t + 5 * i + 2) (by omega)
  rw [b1] at h0
  rw [c1] at h1
  rw [d1] at h2
  have hk := kd_val b (by omega) h0
  rw [List.any_eq_true] at hk
  obtain ⟨q, q1, q2⟩ := hk
  obtain ⟨u1, u2⟩ := fig_val1 c (by omega) h1
  obtain ⟨w1, w2⟩ := fig_val1 d (by omega) h2
  exact ⟨⟨q, by rw [csK, b1]; exact eq_of_beq q2, by have := List.mem_range.mp q1; omega⟩, ⟨c - 48, by rw [csN, c1, sub48 u1], u2⟩, ⟨d - 48, by rw [csW, d1, sub48 w1], w2⟩⟩
