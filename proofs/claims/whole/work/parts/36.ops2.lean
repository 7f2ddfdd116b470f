/-! MORE CALLS -/
theorem rng_of {f g : Nat → Int32} {n hi : Nat} (h : rng f n hi) (e : ∀ i, i < n → g i = f i) : rng g n hi := fun i hn => by
  obtain ⟨b, h1, h2⟩ := h i hn
  exact ⟨b, (e i hn).trans h1, h2⟩
theorem Co_isRead_in {σ : Sg} {R : Nat} (h : gF σ 0 9 = nI R) (hR : 0 < R) (hb : R < 2147483648) : Co_isRead σ = some 1 := by
  rw [Co_isRead, h, if_neg (nI_nle hR hb)]
theorem Co_isRead_out {σ : Sg} (h : gF σ 0 9 = nI 0) : Co_isRead σ = some 0 := by
  rw [Co_isRead, h, if_pos (by decide)]
theorem op_image {t fu : Nat} (ht : t ≤ 1000) (hfu : 1000 ≤ fu) {σ : Sg} (h : Inv t σ) : opP t (Co_image fu σ) (fun s => Mo_image fu s) := by
  obtain ⟨N, T, R, i1, i2, i3, i4, i5, i6, i7⟩ := h
  have hI : Inv (t + 1) σ := ⟨N, T, R, i1.mono (by omega), i2, i3.mono (by omega), i4, i5, i6, i7.mono (by omega)⟩
  have i1' := i1
  obtain ⟨n1, n2, t1, t2, n7, t3, r1, r2, r3, r4, r5⟩ := i1'
  by_cases hR : R = 0
  · have hN0 := (r4 hR).1
    subst hN0
    refine ⟨-103, σ, σ, ?_, ?_, hI⟩
    · rw [Co_image, Co_isRead_out (by rw [r1, hR]), bindV_some, if_neg (by decide)]
    · show Mo_image fu σ = _
      rw [Mo_image, n2, if_neg (by decide)]
  · have hN2 := (r5 (by omega)).1
    have hNz : ¬ gF σ 91 2 = 0 := by rw [n2]; exact nI_ne0 (by omega) (by omega)
    obtain ⟨⟨m, m1, m2, m3⟩, ⟨y, y1, y2, y3⟩, ⟨o, o1, o2, o3⟩⟩ := i3
    refine ⟨nI y, sF (coS σ 29 5) 0 8 1, imM (sF (coS σ 29 5) 0 8 1), ?_, ?_, ?_⟩
    · rw [Co_image, Co_isRead_in r1 (by omega) (by omega), bindV_some, if_pos (by decide), copyFrom29_5 hfu, bindV_some, Sh_years, bindV_some]
      show some (gF σ 5 12, _) = _
      rw [y1]
    · show Mo_image fu (sF (coS σ 29 5) 0 8 1) = _
      rw [Mo_image_in (σ := sF (coS σ 29 5) 0 8 1) hfu hNz]
      show some (gF σ 91 11, _) = _
      rw [y2]
    · obtain ⟨⟨d1, d2, d3, d4, d5, d6⟩, ⟨g1, g2, g3, g4, g5, g6⟩, d7⟩ := i2
      obtain ⟨⟨S, s1, s2, s3⟩, s4, s5, s6⟩ := i4
      refine ⟨N, T, R, i1.mono (by omega), ⟨⟨d1, d2, d3, d4, d5, d6⟩, ⟨g1, g2, g3, g4, g5, g6⟩, d7⟩, ⟨⟨m, m1, m2, m3⟩, ⟨y, y1, y2, by omega⟩, ⟨o, o1, o2, by omega⟩⟩, ⟨⟨S, s1, s2, s3⟩, s4, s5, s6⟩, i5, i6, ⟨R, r2, Nat.le_refl R, Or.inr ⟨rfl, rfl, rfl, by omega, ⟨t1, n1⟩, ?_, ?_, ?_, ⟨?_, ?_, ?_, ?_⟩, ⟨⟨m, m1, m2, m3⟩, ⟨y, y1, y2, by omega⟩, ⟨o, o1, o2, by omega⟩⟩, ⟨S, s1, s2, s3⟩, ?_⟩⟩⟩
      · intro i hi
        refine ⟨?_, ?_, ?_, ?_⟩
        · show (if 35 = 35 ∧ i < 7 then gA σ 11 i else gA σ 35 i) = gA σ 11 i
          rw [if_pos ⟨rfl, hi⟩]
        · show (if 41 = 41 ∧ i < 7 then gA σ 17 i else gA σ 41 i) = gA σ 17 i
          rw [if_pos ⟨rfl, hi⟩]
        · show (if 43 = 43 ∧ i < 7 then gA σ 19 i else gA σ 43 i) = gA σ 19 i
          rw [if_pos ⟨rfl, hi⟩]
        · show (if 45 = 45 ∧ i < 7 then gA σ 21 i else gA σ 45 i) = gA σ 21 i
          rw [if_pos ⟨rfl, hi⟩]
      · intro i hi
        refine ⟨?_, ?_⟩
        · show (if 31 = 31 ∧ i < 3 then gA σ 7 i else gA σ 31 i) = (if 109 = 109 ∧ i < 3 then gA σ 92 i else gA σ 109 i)
          rw [if_pos ⟨rfl, hi⟩, if_pos ⟨rfl, hi⟩, d1]
        · show (if 33 = 33 ∧ i < 3 then gA σ 9 i else gA σ 33 i) = (if 110 = 110 ∧ i < 3 then gA σ 93 i else gA σ 110 i)
          rw [if_pos ⟨rfl, hi⟩, if_pos ⟨rfl, hi⟩, d2]
      · intro i hi
        refine ⟨?_, ?_⟩
        · show (if 37 = 37 ∧ i < 7 then gA σ 13 i else gA σ 37 i) = (if 111 = 111 ∧ i < 7 then gA σ 95 i else gA σ 111 i)
          rw [if_pos ⟨rfl, hi⟩, if_pos ⟨rfl, hi⟩, d4]
        · show (if 39 = 39 ∧ i < 7 then gA σ 15 i else gA σ 39 i) = (if 112 = 112 ∧ i < 7 then gA σ 96 i else gA σ 112 i)
          rw [if_pos ⟨rfl, hi⟩, if_pos ⟨rfl, hi⟩, d5]
      · refine rng_of g1 (fun i hi => ?_)
        show (if 31 = 31 ∧ i < 3 then gA σ 7 i else gA σ 31 i) = _
        rw [if_pos ⟨rfl, hi⟩]
      · refine rng_of g2 (fun i hi => ?_)
        show (if 33 = 33 ∧ i < 3 then gA σ 9 i else gA σ 33 i) = _
        rw [if_pos ⟨rfl, hi⟩]
      · refine rng_of g4 (fun i hi => ?_)
        show (if 37 = 37 ∧ i < 7 then gA σ 13 i else gA σ 37 i) = _
        rw [if_pos ⟨rfl, hi⟩]
      · refine rng_of g5 (fun i hi => ?_)
        show (if 39 = 39 ∧ i < 7 then gA σ 15 i else gA σ 39 i) = _
        rw [if_pos ⟨rfl, hi⟩]
      · intro i hi
        refine ⟨?_, ?_, ?_⟩
        · show (if 48 = 48 ∧ i < 8 then gA σ 24 i else gA σ 48 i) = (if 113 = 113 ∧ i < 8 then gA σ 98 i else gA σ 113 i)
          rw [if_pos ⟨rfl, hi⟩, if_pos ⟨rfl, hi⟩, s4]
        · show (if 50 = 50 ∧ i < 8 then gA σ 26 i else gA σ 50 i) = (if 114 = 114 ∧ i < 8 then gA σ 99 i else gA σ 114 i)
          rw [if_pos ⟨rfl, hi⟩, if_pos ⟨rfl, hi⟩, s5]
        · show (if 52 = 52 ∧ i < 8 then gA σ 28 i else gA σ 52 i) = (if 115 = 115 ∧ i < 8 then gA σ 100 i else gA σ 115 i)
          rw [if_pos ⟨rfl, hi⟩, if_pos ⟨rfl, hi⟩, s6]
/-- a part copied over a row that is the other's row -/
theorem fcopy {f g f' g' : Nat → Int32} {n k l : Nat} (h : f = g) (h' : ∀ i, i < n → f' i = g' i) : (fun b => if k = k ∧ b < n then f' b else f b) = fun b => if l = l ∧ b < n then g' b else g b := by
  funext b
  by_cases hb : b < n
  · rw [if_pos ⟨rfl, hb⟩, if_pos ⟨rfl, hb⟩, h' b hb]
  · rw [if_neg (fun z => hb z.2), if_neg (fun z => hb z.2), h]
theorem fsame {f f' : Nat → Int32} {n k : Nat} (h' : ∀ i, i < n → f' i = f i) : (fun b => if k = k ∧ b < n then f' b else f b) = f := by
  funext b
  by_cases hb : b < n
  · rw [if_pos ⟨rfl, hb⟩, h' b hb]
  · rw [if_neg (fun z => hb z.2)]
theorem op_restore {t fu : Nat} (ht : t ≤ 1000) (hfu : 1000 ≤ fu) {σ : Sg} (h : Inv t σ) : opP t (Co_restore fu σ) (fun s => Mo_restore fu s) := by
  obtain ⟨N, T, R, i1, i2, i3, i4, i5, i6, i7⟩ := h
  have hI : Inv (t + 1) σ := ⟨N, T, R, i1.mono (by omega), i2, i3.mono (by omega), i4, i5, i6, i7.mono (by omega)⟩
  have i1' := i1
  obtain ⟨n1, n2, t1, t2, n7, t3, r1, r2, r3, r4, r5⟩ := i1'
  obtain ⟨q, q1, q2, q3⟩ := i7
  rcases q3 with ⟨k1, k2⟩ | ⟨k1, k2, k3, k4, ⟨kt, kn⟩, k5, k6, k7, ⟨k8, k9, k10, k11⟩, ⟨⟨m, m1, m2, m3⟩, ⟨y, y1, y2, y3⟩, ⟨o, o1, o2, o3⟩⟩, ⟨S, s1, s2, s3⟩, k12⟩
  · refine ⟨-103, σ, σ, ?_, ?_, hI⟩
    · rw [Co_restore, k1, if_neg (by decide)]
    · show Mo_restore fu σ = _
      rcases k2 with k2 | ⟨k2, k3⟩
      · rw [Mo_restore, k2, if_pos rfl]
      · rw [Mo_restore, k2, if_neg (by decide), q1, r2, if_neg]
        rw [nI_eq (by omega) (by omega)]
        omega
  · subst k3
    refine ⟨nI y, coS σ 5 29, reM (coS σ 5 29), ?_, ?_, ?_⟩
    · rw [Co_restore, k1, if_pos (by decide), copyFrom5_29 hfu, bindV_some, Sh_years, bindV_some]
      show some (gF σ 29 12, _) = _
      rw [y1]
    · show Mo_restore fu (coS σ 5 29) = _
      rw [Mo_restore_in (σ := coS σ 5 29) hfu k2 (q1.trans r2.symm)]
      show some (gF σ 91 36, _) = _
      rw [y2]
    · obtain ⟨⟨d1, d2, d3, d4, d5, d6⟩, ⟨g1, g2, g3, g4, g5, g6⟩, d7⟩ := i2
      obtain ⟨-, s4, s5, s6⟩ := i4
      have e11 : gA (reM (coS σ 5 29)) 11 = gA σ 11 := fsame (k := 11) (fun i hi => (k5 i hi).1)
      have e17 : gA (reM (coS σ 5 29)) 17 = gA σ 17 := fsame (k := 17) (fun i hi => (k5 i hi).2.1)
      have e19 : gA (reM (coS σ 5 29)) 19 = gA σ 19 := fsame (k := 19) (fun i hi => (k5 i hi).2.2.1)
      have e21 : gA (reM (coS σ 5 29)) 21 = gA σ 21 := fsame (k := 21) (fun i hi => (k5 i hi).2.2.2)
      have e7 : gA (reM (coS σ 5 29)) 7 = fun b => if 7 = 7 ∧ b < 3 then gA σ 31 b else gA σ 7 b := rfl
      have e9 : gA (reM (coS σ 5 29)) 9 = fun b => if 9 = 9 ∧ b < 3 then gA σ 33 b else gA σ 9 b := rfl
      have e13 : gA (reM (coS σ 5 29)) 13 = fun b => if 13 = 13 ∧ b < 7 then gA σ 37 b else gA σ 13 b := rfl
      have e15 : gA (reM (coS σ 5 29)) 15 = fun b => if 15 = 15 ∧ b < 7 then gA σ 39 b else gA σ 15 b := rfl
      refine ⟨N, T, q, ⟨kn, n2, kt, t2, n7, t3, r1, r2, by omega, r4, r5⟩, ⟨⟨?_, ?_, ?_, ?_, ?_, ?_⟩, ⟨?_, ?_, ?_, ?_, ?_, ?_⟩, ?_⟩, ⟨⟨m, m1, m2, m3⟩, ⟨y, y1, y2, by omega⟩, ⟨o, o1, o2, by omega⟩⟩, ⟨⟨S, s1, s2, s3⟩, ?_, ?_, ?_⟩, i5, i6, ⟨q, q1, q2, Or.inr ⟨k1, k2, rfl, k4, ⟨kt, kn⟩, ?_, k6, k7, ⟨k8, k9, k10, k11⟩, ⟨⟨m, m1, m2, m3⟩, ⟨y, y1, y2, by omega⟩, ⟨o, o1, o2, by omega⟩⟩, ⟨S, s1, s2, s3⟩, k12⟩⟩⟩
      · exact fcopy (k := 7) (l := 92) d1 (fun i hi => (k6 i hi).1)
      · exact fcopy (k := 9) (l := 93) d2 (fun i hi => (k6 i hi).2)
      · rw [e11]; exact d3
      · exact fcopy (k := 13) (l := 95) d4 (fun i hi => (k7 i hi).1)
      · exact fcopy (k := 15) (l := 96) d5 (fun i hi => (k7 i hi).2)
      · rw [e17]; exact d6
      · rw [e7]; exact rng_of k8 (fun i hi => by rw [if_pos ⟨rfl, hi⟩])
      · rw [e9]; exact rng_of k9 (fun i hi => by rw [if_pos ⟨rfl, hi⟩])
      · rw [e11]; exact g3
      · rw [e13]; exact rng_of k10 (fun i hi => by rw [if_pos ⟨rfl, hi⟩])
      · rw [e15]; exact rng_of k11 (fun i hi => by rw [if_pos ⟨rfl, hi⟩])
      · rw [e17]; exact g6
      · rw [e17, e19, e21]; exact d7
      · exact fcopy (k := 24) (l := 98) s4 (fun i hi => (k12 i hi).1)
      · exact fcopy (k := 26) (l := 99) s5 (fun i hi => (k12 i hi).2.1)
      · exact fcopy (k := 28) (l := 100) s6 (fun i hi => (k12 i hi).2.2)
      · rw [e11, e17, e19, e21]; exact k5
theorem op_see {t : Nat} {σ : Sg} (h : Inv t σ) (a b e : Int32) : opP t (Co_see σ a b e) (fun s => Mo_see s a b e) := by
  obtain ⟨N, T, R, i1, i2, i3, i4, i5, i6, i7⟩ := h
  have hI : Inv (t + 1) σ := ⟨N, T, R, i1.mono (by omega), i2, i3.mono (by omega), i4, i5, i6, i7.mono (by omega)⟩
  have i1' := i1
  obtain ⟨n1, n2, t1, t2, n7, t3, -⟩ := i1'
  rcases hasSuit5 n1 n7 a with ⟨c, hc, rfl, ec⟩ | ⟨ho, ec⟩
  · have m1 : Mo_isCase σ (nI c) = some 1 := isCase_in n2 n7 hc
    by_cases h0 : b < 1
    · exact ⟨-102, σ, σ, by rw [Co_see, ec, bindV_some, if_pos (by decide), if_pos h0], by simp [Mo_see, m1, bindV_some, within_is, h0, b2], hI⟩
    · by_cases h1 : b ≤ 18
      · have h2 : ¬ 18 < b := Int32.not_lt.mpr h1
        obtain ⟨⟨S, s1, s2, s3⟩, s4, s5, s6⟩ := i4
        by_cases hS : S < 8
        · have hin : inb (nI S) 8 = true := inb_nI hS (by decide)
          have hix : ix (nI S) = S := ix_nI (by omega)
          have e1 : (nI S < 8) = True := by rw [show (8 : Int32) = nI 8 from rfl, nI_ltB (by omega) (by omega)]; simp [hS]
          have e2 : (nI S = 8) = False := by rw [show (8 : Int32) = nI 8 from rfl, nI_eqB (by omega) (by omega)]; simp; omega
          have hw : Inv (t + 1) (sF (sA (sA (sA (sF (sA (sA (sA σ 24 S (nI c)) 26 S b) 28 S (if e = 0 then 0 else 1)) 22 3 (nI (S + 1))) 98 S (nI c)) 99 S b) 100 S (if e = 0 then 0 else 1)) 91 13 (nI (S + 1))) := by
            refine ⟨N, T, R, i1.mono (by omega), i2, i3.mono (by omega), ⟨⟨S + 1, rfl, rfl, by omega⟩, ?_, ?_, ?_⟩, i5, i6, i7.mono (by omega)⟩
            · funext i
              show (if 24 = 24 ∧ i = S then nI c else gA σ 24 i) = (if 98 = 98 ∧ i = S then nI c else gA σ 98 i)
              rw [s4]; simp
            · funext i
              show (if 26 = 26 ∧ i = S then b else gA σ 26 i) = (if 99 = 99 ∧ i = S then b else gA σ 99 i)
              rw [s5]; simp
            · funext i
              show (if 28 = 28 ∧ i = S then (if e = 0 then 0 else 1) else gA σ 28 i) = (if 100 = 100 ∧ i = S then (if e = 0 then 0 else 1) else gA σ 100 i)
              rw [s6]; simp
          refine ⟨nI (S + 1), sF (sA (sA (sA σ 24 S (nI c)) 26 S b) 28 S (if e = 0 then 0 else 1)) 22 3 (nI (S + 1)), _, ?_, ?_, hw⟩
          · rw [Co_see, ec, bindV_some, if_pos (by decide), if_neg h0, if_pos h1, Si_size, bindV_some, s1, if_pos (by rw [e1]; trivial), Si_add, s1, Rw_put_in (n := 8) rfl hS (by decide), bindV_some]
            have f1 : gF (sA σ (22 + 1 + 1) S (nI c)) 22 3 = nI S := s1
            rw [f1, Rw_put_in (n := 8) rfl hS (by decide), bindV_some]
            have f2 : gF (sA (sA σ (22 + 1 + 1) S (nI c)) (22 + 3 + 1) S b) 22 3 = nI S := s1
            by_cases he : e = 0
            · rw [if_pos he, if_pos he, f2, Rw_put_in (n := 8) rfl hS (by decide), bindV_some, bindV_some]
              have f3 : gF (sA (sA (sA σ (22 + 1 + 1) S (nI c)) (22 + 3 + 1) S b) (22 + 5 + 1) S 0) 22 3 = nI S := s1
              rw [f3, nI_1, Si_size, bindV_some]
              rfl
            · rw [if_neg he, if_neg he, f2, Rw_put_in (n := 8) rfl hS (by decide), bindV_some, bindV_some]
              have f3 : gF (sA (sA (sA σ (22 + 1 + 1) S (nI c)) (22 + 3 + 1) S b) (22 + 5 + 1) S 1) 22 3 = nI S := s1
              rw [f3, nI_1, Si_size, bindV_some]
              rfl
          · generalize hq : sF (sA (sA (sA σ 24 S (nI c)) 26 S b) 28 S (if e = 0 then 0 else 1)) 22 3 (nI (S + 1)) = s'
            have m2 : Mo_isCase s' (nI c) = some 1 := by rw [← hq]; exact m1
            have g1 : gF s' 91 13 = nI S := by rw [← hq]; exact s2
            by_cases he : e = 0
            · simp only [Mo_see, m2, bindV_some, within_is, h0, h2, gF_sA, g1, e2, hin, hix, he, if_true, nI_1]
              simp [b2, gF_sF]
            · simp only [Mo_see, m2, bindV_some, within_is, h0, h2, gF_sA, g1, e2, hin, hix, he, if_true, if_false, nI_1]
              simp [b2, gF_sF]
        · have hS8 : S = 8 := by omega
          subst hS8
          refine ⟨-104, σ, σ, ?_, ?_, hI⟩
          · rw [Co_see, ec, bindV_some, if_pos (by decide), if_neg h0, if_pos h1, Si_size, bindV_some, s1, if_neg (by decide)]
          · simp only [Mo_see, m1, bindV_some, within_is, h0, h2, s2]
            rfl
      · have h2 : 18 < b := Int32.not_le.mp h1
        exact ⟨-102, σ, σ, by rw [Co_see, ec, bindV_some, if_pos (by decide), if_neg h0, if_neg h1], by simp [Mo_see, m1, bindV_some, within_is, h2, b2], hI⟩
  · exact ⟨-101, σ, σ, by rw [Co_see, ec, bindV_some, if_neg (by decide)], by simp [Mo_see, isCase_out n2 n7 ho, bindV_some], hI⟩
theorem op_walk {t fu : Nat} (hfu : 1000 ≤ fu) {σ : Sg} (h : Inv t σ) (a : Int32) : opP t (Co_walk fu σ a) (fun s => Mo_walk fu s a) := by
  obtain ⟨N, T, R, i1, i2, i3, i4, i5, i6, i7⟩ := h
  have hI : Inv (t + 1) σ := ⟨N, T, R, i1.mono (by omega), i2, i3.mono (by omega), i4, i5, i6, i7.mono (by omega)⟩
  have i1' := i1
  obtain ⟨n1, n2, t1, t2, n7, t3, -⟩ := i1'
  rcases hasSuit5 n1 n7 a with ⟨c, hc, rfl, ec⟩ | ⟨ho, ec⟩
  · have m1 : Mo_isCase σ (nI c) = some 1 := isCase_in n2 n7 hc
    obtain ⟨⟨m, m2, m3, m4⟩, hy, ho⟩ := i3
    have h7 : 2 ^ N ≤ 2 ^ 7 := Nat.pow_le_pow_right (by decide) n7
    cases hx : hasX (nI m) (nI c) with
    | false =>
      refine ⟨-103, σ, σ, ?_, ?_, hI⟩
      · rw [Co_walk, ec, bindV_some, if_pos (by decide), Sh_righted, bindV_some, m2, Co_has_is, bindV_some, hx, if_neg (by decide)]
      · show Mo_walk fu σ (nI c) = _
        rw [Mo_walk, m1, bindV_some, if_pos (by decide), m3, Mo_isIn_is, bindV_some, hx, if_neg (by decide)]
    | true =>
      obtain ⟨m', e1, e2⟩ := nI_andX m (by omega) (bitI c ^^^ (-1))
      obtain ⟨⟨d1, d2, d3, d4, d5, d6⟩, hg, d7⟩ := i2
      refine ⟨worthS (gA σ 15) N (nI m'), sF σ 5 11 (nI m'), sF (sF σ 5 11 (nI m')) 91 9 (nI m'), ?_, ?_, ⟨N, T, R, i1.mono (by omega), ⟨⟨d1, d2, d3, d4, d5, d6⟩, hg, d7⟩, ⟨⟨m', rfl, rfl, by omega⟩, ?_, ?_⟩, i4, i5, i6, i7.mono (by omega)⟩⟩
      · rw [Co_walk, ec, bindV_some, if_pos (by decide), Sh_righted, bindV_some, m2, Co_has_is, bindV_some, hx, if_pos (by decide), Sh_unright, Co_bit_is, bindV_some, bindV_some, m2, e1, holds5 (σ := sF σ 5 11 (nI m')) (N := N) n1 n7 hfu, bindV_some]
        rfl
      · show Mo_walk fu (sF σ 5 11 (nI m')) (nI c) = _
        have m3' : gF (sF σ 5 11 (nI m')) 91 9 = nI m := m3
        have m1' : Mo_isCase (sF σ 5 11 (nI m')) (nI c) = some 1 := m1
        rw [Mo_walk, m1', bindV_some, if_pos (by decide), m3', Mo_isIn_is, bindV_some, hx, if_pos (by decide)]
        rw [show (1 : Int32) <<< (nI c &&& 31) = bitI c from rfl, e1, Mo_worthIn_is (σ := sF (sF σ 5 11 (nI m')) 91 9 (nI m')) (N := N) n2 n7 hfu, bindV_some, d5]
        rfl
      · obtain ⟨y, y1, y2, y3⟩ := hy
        exact ⟨y, y1, y2, by omega⟩
      · obtain ⟨o, o1, o2, o3⟩ := ho
        exact ⟨o, o1, o2, by omega⟩
  · exact ⟨-101, σ, σ, by rw [Co_walk, ec, bindV_some, if_neg (by decide)], by simp [Mo_walk, isCase_out n2 n7 ho, bindV_some], hI⟩
