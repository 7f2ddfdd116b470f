/-! CENTURIES, on both sides -/
theorem Jt_vw (B t : Nat) (σ : Sg) (N T m : Nat) : Jt B t (vw σ) N T m = Jt B t σ N T m := rfl
theorem Jt.of_vw {B t : Nat} {s σ : Sg} {N T m : Nat} (h : Jt B t σ N T m) (e : vw s = vw σ) : Jt B t s N T m := by
  rw [← Jt_vw, e, Jt_vw]
  exact h
theorem CI_vw (σ : Sg) (W : Nat → Int32) (N T m : Nat) : CI (vw σ) W N T m = CI σ W N T m := rfl
theorem CI.of_vw {s σ : Sg} {W : Nat → Int32} {N T m : Nat} (h : CI σ W N T m) (e : vw s = vw σ) : CI s W N T m := by
  rw [← CI_vw, e, CI_vw]
  exact h
theorem CI.of92 {s σ : Sg} {W : Nat → Int32} {N T m : Nat} (h : CI σ W N T m) (e1 : gF s = gF σ) (e2 : ∀ a, a ≠ 92 → gA s a = gA σ a) : CI s W N T m := by
  unfold CI
  rw [e1, e2 7 (by decide), e2 9 (by decide), e2 11 (by decide), e2 13 (by decide), e2 15 (by decide), e2 17 (by decide), e2 19 (by decide), e2 21 (by decide)]
  exact h
theorem Jt.of92 {B t : Nat} {s σ : Sg} {N T m : Nat} (h : Jt B t σ N T m) (e1 : gF s = gF σ) (e2 : ∀ a, a ≠ 92 → gA s a = gA σ a) : Jt B t s N T m := by
  obtain ⟨h1, h2, h3, h4, h5⟩ := h
  refine ⟨?_, ?_, ?_, ?_, ?_⟩
  · rw [e2 91 (by decide)]; exact h1.of92 e1 e2
  · rw [e2 91 (by decide)]; exact h2
  · rw [e1, e2 91 (by decide)]; exact h3
  · rw [e1, e2 91 (by decide)]; exact h4
  · rw [e1]; exact h5
theorem itA_cong {s σ : Sg} {N T k : Nat} (e1 : gF s 5 11 = gF σ 5 11) (e2 : ∀ a, a = 7 ∨ a = 9 ∨ a = 11 ∨ a = 13 ∨ a = 17 ∨ a = 19 ∨ a = 21 → gA s a = gA σ a) : ∀ i, itA s N T k i = itA σ N T k i := by
  intro i
  induction i with
  | zero => rw [itA, itA, e1, e2 7 (by decide)]
  | succ i ih => rw [itA, itA, ih, stA, stA, okA, okA, coA, coA, e2 9 (by decide), e2 11 (by decide), e2 13 (by decide), e2 17 (by decide), e2 19 (by decide), e2 21 (by decide)]
theorem itA_vw {s σ : Sg} {N T k : Nat} (e : vw s = vw σ) (i : Nat) : itA s N T k i = itA σ N T k i :=
  itA_cong (vw_gF e rfl) (fun a ha => vw_gA e (by rcases ha with rfl | rfl | rfl | rfl | rfl | rfl | rfl <;> rfl)) i
theorem Co_cent_is {σ : Sg} {W : Nat → Int32} {N T m ti k fu : Nat} (h : CI σ W N T m) (hr : RowA W N T m) (h1 : 1 ≤ ti) (h60 : ti ≤ 60) (hk : k < 2147483648) (hfu : 1000 ≤ fu) : ∃ s, vw s = vw σ ∧ Co_centuries fu σ (nI ti) (nI k) 0 = some ((itA σ N T k ti).cn, s) ∧ Co_centuries fu σ (nI ti) (nI k) 1 = some (worthS (woW W) N (itA σ N T k ti).r, s) ∧ Co_centuries fu σ (nI ti) (nI k) 2 = some ((nL (itA σ N T k ti).sd).toInt32, s) := by
  have hw := h.worth (itA σ N T k ti).r
  obtain ⟨h0, h1', t1, t3, n2, n7, hm⟩ := hr
  obtain ⟨R, R1, R2, R3⟩ := h.2.2.1
  obtain ⟨s1, e1, v1, ⟨-, f1⟩, fr, fc, fs, -, fa⟩ := Fo_pass_is (σ := σ) hfu h.1.1 h.1.2.1 (show 0 < N by omega) n7 (show 0 < T by omega) t3 hk h60
  have ha1 : ¬ nI ti < 1 := fun z => by have := (nI_ltI (b := 1) (by omega) (by omega)).mp z; omega
  have ha6 : ¬ (60 : Int32) < nI ti := fun z => by have := (nI_ltI (a := 60) (by omega) (by omega)).mp z; omega
  have ew : worthS (gA s1 77) N (itA σ N T k ti).r = worthS (gA σ 15) N (itA σ N T k ti).r := fo_cong N 0 0 (fun j b h1 h2 => by rw [(fa j (by omega)).2.2.1])
  refine ⟨s1, v1, ?_, ?_, ?_⟩
  · rw [Co_centuries, if_neg ha1, if_neg ha6, if_neg (nI_pos hk), if_neg (by decide), if_pos (by decide), Co_isRead_in R1 R2 (by omega), bindV_some, if_pos (by decide), e1, bindV_some, if_pos rfl, Fo_rightings, Sh_rightings, bindV_some, Sh_rightings, bindV_some, bindV_some, fc, vw_gF v1 (by rfl), Int32.add_comm, Int32.add_sub_cancel]
  · rw [Co_centuries, if_neg ha1, if_neg ha6, if_neg (nI_pos hk), if_neg (by decide), if_pos (by decide), Co_isRead_in R1 R2 (by omega), bindV_some, if_pos (by decide), e1, bindV_some, if_neg (by decide), if_pos rfl, Fo_holds, holds67 f1 n7 hfu, bindV_some, bindV_some, fr, ew, hw]
  · rw [Co_centuries, if_neg ha1, if_neg ha6, if_neg (nI_pos hk), if_neg (by decide), if_pos (by decide), Co_isRead_in R1 R2 (by omega), bindV_some, if_pos (by decide), e1, bindV_some, if_neg (by decide), if_neg (by decide), Fo_seed, bindV_some, fs]
/-! the law's own centuries, on its second row -/
def VI (σ : Sg) (N T : Nat) (a : CA) (s : Sg) : Prop := (gF s = gF σ ∧ gL s = gL σ ∧ ∀ x, x ≠ 92 → gA s x = gA σ x) ∧ (∃ m, Row (gA s 92) N T m ∧ a.r = nI m) ∧ (∀ i, i < N → kiW (gA s 92) i = kiW (gA σ 91) i ∧ neW (gA s 92) i = neW (gA σ 91) i ∧ woW (gA s 92) i = woW (gA σ 91) i ∧ haW (gA s 92) i = haW (gA σ 91) i) ∧ ∀ i, i < T → beW (gA s 92) i = a.be i ∧ biW (gA s 92) i = biW (gA σ 91) i
theorem nI64_ne {n : Nat} (h0 : 0 < n) (h : n < 8) : ¬ (nI n).toInt64 = 0 := by
  rw [(toL7 n h).1]
  intro z
  have := congrArg Int64.toInt z
  rw [nL_toInt (by omega), show ((0 : Int64)).toInt = 0 by decide] at this
  omega
theorem size_pos {ha : Nat → Int32} {N k m : Nat} (hN : N ≤ 7) (hk : k < N) (hm : m < 2 ^ N) : ¬ sizeS (allS ha N k &&& nI m) < 0 := by
  have h2 := two7 hN
  obtain ⟨M, M1, M2, -⟩ := allS_bits ha hN hk
  have hsz : M &&& m < 512 := Nat.lt_of_le_of_lt Nat.and_le_right (by omega)
  rw [M1, nI_and]
  have h := sizeS9 _ hsz
  rw [List.any_eq_true] at h
  obtain ⟨s, s1, s2⟩ := h
  rw [eq_of_beq s2]
  exact nI_pos (by have := List.mem_range.mp s1; omega)
theorem VI_step {σ s : Sg} {N T m fu : Nat} {a : CA} (hfu : 1000 ≤ fu) (hc : CI σ (gA σ 91) N T m) (hr : Row (gA σ 91) N T m) (hsd : a.sd < 2147483648) (h : VI σ N T a s) (xs : Nat → Int32) (L : Nat) (l4 l5 l6 l8 l9 : Int32) (kont : Int64 → Int32 → Int32 → Sg → Option (Int32 × Sg)) (n i : Nat) (hi : ¬ l8 ≤ nI i) : ∃ s', La_law_L172 fu xs L l4 l5 l6 l8 l9 kont (n + 1) (nL a.sd) a.cn (nI i) s = La_law_L172 fu xs L l4 l5 l6 l8 l9 kont n (nL (stA σ N T a).sd) (stA σ N T a).cn (nI (i + 1)) s' ∧ VI σ N T (stA σ N T a) s' := by
  obtain ⟨⟨v1, v2, v3⟩, ⟨mi, hri, hmi⟩, ff, fb⟩ := h
  have hr' := hr
  obtain ⟨⟨h0, h1, t1, t3, n2, n7, hm⟩, -, -⟩ := hr'
  have hcl := Nat.mod_lt (nx a.sd / 65536) (show 0 < N by omega)
  have hul := Nat.mod_lt (nx (nx a.sd) / 65536) (show 0 < T by omega)
  have g0 : gA s 91 0 = nI T := by rw [v3 91 (by decide), h0]
  have g1 : gA s 91 1 = nI N := by rw [v3 91 (by decide), h1]
  have fs : ∀ i, i < N → haW (gA s 92) i = haW (gA σ 91) i := fun i hi => (ff i hi).2.2.2
  have hcoE : coW (gA s 92) N (nx a.sd / 65536 % N) = coW (gA σ 91) N (nx a.sd / 65536 % N) := by rw [coW, coW, (ff _ hcl).1, (ff _ hcl).2.1, strS_cong fs]
  have hal : allS (haW (gA s 92)) N (nx a.sd / 65536 % N) = allS (haW (gA σ 91)) N (nx a.sd / 65536 % N) := allS_cong fs _ hcl
  have ok : mayW (gA s 92) N mi (nx a.sd / 65536 % N) (nx (nx a.sd) / 65536 % T) = okA σ N T a := by
    rw [mayW, okA, openS_cong (ff _ hcl).1 (fs _ hcl), hcoE, (fb _ hul).1, hmi, hc.opn hcl, coA, hc.cost hcl]
  have hmay := La_may_is w92 hri hcl hul hfu
  rw [show (openS (kiW (gA s 92)) (haW (gA s 92)) (nI mi) (nx a.sd / 65536 % N) && !decide (beW (gA s 92) (nx (nx a.sd) / 65536 % T) < coW (gA s 92) N (nx a.sd / 65536 % N))) = okA σ N T a from ok] at hmay
  rw [La_law_L172, if_neg hi, seedC hsd, bindV_some, if_pos (show inb (1 : Int32) 45 = true from rfl), ix1, g1, if_neg (nI64_ne (by omega) (by omega)), drawn (nx_lt _) (by omega) (by omega), bindV_some, seedC (nx_lt _), bindV_some, if_pos (show inb (0 : Int32) 45 = true from rfl), ix0, g0, if_neg (nI64_ne (by omega) (by omega)), drawn (nx_lt _) (by omega) (by omega), bindV_some, hmay, bindV_some, nI_1]
  cases hok : okA σ N T a with
  | false =>
    have est : stA σ N T a = CA.of (fun i => if i < T then yv (a.be i) (gA σ 9 i) else a.be i) a.r (nx (nx a.sd)) a.cn := by rw [stA, if_neg (by rw [hok]; decide)]
    rw [if_pos (by decide), La_year_is w92 hri.1 hfu, bindV_some, est]
    refine ⟨yrW s 92 T, by rw [sd_of, cn_of], ⟨v1, v2, fun x hx => ?_⟩, ⟨mi, ?_, by rw [r_of]; exact hmi⟩, ?_, ?_⟩
    · rw [← v3 x hx]
      funext b
      rw [gA_yrW, if_neg (fun z => hx z.1)]
    all_goals have hh : ∀ b, 4 + T ≤ b → gA (yrW s 92 T) 92 b = gA s 92 b := fun b hb => by rw [gA_yrW, if_neg (by omega)]
    · obtain ⟨⟨q0, q1, q2⟩, qT, qS⟩ := hri
      refine ⟨⟨by rw [gA_yrW, if_neg (by omega), q0], by rw [gA_yrW, if_neg (by omega), q1], q2⟩, fun i hi2 => ⟨?_, ?_⟩, fun j hj => ?_⟩
      · have := yv_rng (f := beW (gA s 92)) (g := biW (gA s 92)) (n := T) (hi := 9) (by decide) (fun j hj => (qT j hj).1) (fun j hj => (qT j hj).2) i hi2
        obtain ⟨z, z1, z2⟩ := this
        refine ⟨z, ?_, z2⟩
        show gA (yrW s 92 T) 92 (4 + i) = _
        rw [gA_yrW, if_pos ⟨rfl, by omega, by omega⟩, show 4 + i + 3 = 7 + i by omega]
        exact z1
      · have e : biW (gA (yrW s 92 T) 92) i = biW (gA s 92) i := hh _ (by omega)
        rw [e]
        exact (qT i hi2).2
      · have e1 : kiW (gA (yrW s 92 T) 92) j = kiW (gA s 92) j := hh _ (by omega)
        have e2 : neW (gA (yrW s 92 T) 92) j = neW (gA s 92) j := hh _ (by omega)
        have e3 : woW (gA (yrW s 92 T) 92) j = woW (gA s 92) j := hh _ (by omega)
        have e4 : haW (gA (yrW s 92 T) 92) j = haW (gA s 92) j := hh _ (by omega)
        have e5 : riW (gA (yrW s 92 T) 92) j = riW (gA s 92) j := hh _ (by omega)
        rw [e1, e2, e3, e4, e5]
        exact qS j hj
    · intro j hj
      rw [← (ff j hj).1, ← (ff j hj).2.1, ← (ff j hj).2.2.1, ← (ff j hj).2.2.2]
      exact ⟨hh _ (by omega), hh _ (by omega), hh _ (by omega), hh _ (by omega)⟩
    · intro i hi2
      refine ⟨?_, ?_⟩
      · show gA (yrW s 92 T) 92 (4 + i) = if i < T then yv (a.be i) (gA σ 9 i) else a.be i
        rw [gA_yrW, if_pos ⟨rfl, by omega, by omega⟩, if_pos hi2, show 4 + i + 3 = 7 + i by omega, ← (fb i hi2).1, (hc.2.2.2.2.1 i hi2).2, ← (fb i hi2).2]
        rfl
      · rw [← (fb i hi2).2]
        exact hh _ (by omega)
  | true =>
    have est : stA σ N T a = CA.of (fun i => if i = nx (nx a.sd) / 65536 % T then a.be i - coA σ (nx a.sd / 65536 % N) else a.be i) ((a.r ||| bitI (nx a.sd / 65536 % N)) &&& (gA σ 21 (nx a.sd / 65536 % N) ^^^ (-1))) (nx (nx a.sd)) (a.cn + 1) := by rw [stA, if_pos hok]
    obtain ⟨s', r1, r2⟩ := La_right_is w92 hri hcl hul hfu
    have hmi2 : mi < 2 ^ N := hri.1.2.2.2.2.2.2
    obtain ⟨m', e1, e2⟩ := right_set hmi2 n7 hcl (allS (haW (gA s 92)) N (nx a.sd / 65536 % N))
    have hp : mayW (gA s 92) N mi (nx a.sd / 65536 % N) (nx (nx a.sd) / 65536 % T) = true := ok.trans hok
    obtain ⟨z1, z2, ⟨z3, z4, z5, z6⟩, z7, z8⟩ := Row_right hri hcl hul hp e2 e1 r2
    obtain ⟨k1, k2, k3, -⟩ := r2
    rw [if_neg (by decide), r1, bindP_some, if_neg (size_pos n7 hcl hmi2), est]
    refine ⟨s', by rw [sd_of, cn_of], ⟨k1.trans v1, k2.trans v2, fun x hx => (k3 x hx).trans (v3 x hx)⟩, ⟨m', z1, ?_⟩, fun j hj => ⟨(congrFun z3 j).trans (ff j hj).1, (congrFun z4 j).trans (ff j hj).2.1, (congrFun z5 j).trans (ff j hj).2.2.1, (congrFun z6 j).trans (ff j hj).2.2.2⟩, fun i hi2 => ⟨?_, (z8 i hi2).trans (fb i hi2).2⟩⟩
    · show (a.r ||| bitI (nx a.sd / 65536 % N)) &&& (gA σ 21 (nx a.sd / 65536 % N) ^^^ (-1)) = nI m'
      rw [hmi, (hc.2.2.2.2.2 _ hcl).2.2.2.2.2, ← hal]
      exact e1
    · rw [z7 i hi2]
      show (if i = nx (nx a.sd) / 65536 % T then _ else _) = if i = nx (nx a.sd) / 65536 % T then a.be i - coA σ (nx a.sd / 65536 % N) else a.be i
      by_cases ei : i = nx (nx a.sd) / 65536 % T
      · rw [if_pos ei, if_pos ei, hcoE, coA, hc.cost hcl, (fb _ hul).1, ei]
      · rw [if_neg ei, if_neg ei]
        exact (fb i hi2).1
