/-! BOTH READERS, FROM THE TREES ON -/
theorem trees_joint {σ σm : Sg} {P fu : Nat} (hfu : 1000 ≤ fu) (hP : gF σ 1 1 = nI P) (hP2 : gF σm 91 17 = nI P) (hpg : pgOK (gA σ 3) P) (hsame : gA σ 3 = gA σm 101) :
    ∀ m t l n n' s1 s2, t + (m + 1) = 3 → l = 3 * t → l ≤ P → P - l < n → m + 1 < n' → CS σ s1 0 t 0 → MS σm s2 t 0 0 → (∀ i, i < t → treeOK (gA σ 3) (3 * i)) → Out σ σm P (Rd_firstFault_L17 fu K0 n (nI l) s1) (Mo_read_L17 fu (fun l1_13 s14 => some (l1_13, s14)) n' (nI l) s2) := by
  have h46 := hpg.1
  have hPm : ∀ s, vw s = vw σm → gF s 91 17 = nI P := fun s v => by rw [vw_gF v (by rfl)]; exact hP2
  have hAm : ∀ s, vw s = vw σm → gA s 101 = gA σ 3 := fun s v => by rw [vw_gA v (by rfl), hsame]
  have main : ∀ t l n n' s1 s2, t < 3 → l = 3 * t → l ≤ P → P - l < n → 1 < n' → CS σ s1 0 t 0 → MS σm s2 t 0 0 → (∀ i, i < t → treeOK (gA σ 3) (3 * i)) → (∀ s1' s2', t + 1 < 3 → l + 3 ≤ P → CS σ s1' 0 (t + 1) 0 → MS σm s2' (t + 1) 0 0 → (∀ i, i < t + 1 → treeOK (gA σ 3) (3 * i)) → Out σ σm P (Rd_firstFault_L17 fu K0 (n - 3) (nI (l + 3)) s1') (Mo_read_L17 fu (fun l1_13 s14 => some (l1_13, s14)) (n' - 1) (nI (l + 3)) s2')) → Out σ σm P (Rd_firstFault_L17 fu K0 n (nI l) s1) (Mo_read_L17 fu (fun l1_13 s14 => some (l1_13, s14)) n' (nI l) s2) := by
    intro t l n n' s1 s2 ht3 hl hlP hn hn' c1 ms hT next
    obtain ⟨n', rfl⟩ : ∃ q, n' = q + 1 := ⟨n' - 1, by omega⟩
    obtain ⟨mv, ml, m20, m21, m19⟩ := ms
    have hnot3 : ¬ (3 : Int32) ≤ nI t := fun z => by have := (nI_leI (a := 3) (b := t) (by omega) (by omega)).mp z; omega
    have ms' : MS σm (sF s2 91 20 (nI (t + 1))) (t + 1) 0 0 := ⟨by rw [vw_sF (by rfl)]; exact mv, ml, by rw [gF_sF, if_pos (And.intro rfl rfl)], by rw [gF_sF, if_neg (by decide)]; exact m21, by rw [gF_sF, if_neg (by decide)]; exact m19⟩
    have e20 : gF (sF s2 91 20 (nI (t + 1))) 91 20 = nI (t + 1) := ms'.2.2.1
    have eat : Mo_at (sF s2 91 20 (nI (t + 1))) (nI (l + 2)) = some (atP (gA σ 3) P (l + 2)) := by rw [Mo_at_is (hPm _ ms'.1) h46 (by omega), hAm _ ms'.1]
    rw [Mo_read_L17, m20, if_neg hnot3, Mo_fig_is (hPm s2 mv) h46 (by omega), hAm s2 mv, bindV_some, nI_1, nI_1, Mo_fig_is (hPm s2 mv) h46 (by omega), hAm s2 mv, nI_p2, eat]
    obtain ⟨p0a, p0b⟩ := rd_pos (fu := fu) (n := n) (l := l) (f := fun c => fig c 0 9) c1 hP hpg hlP hn (fig_0 0 (by decide)).1 (fun m hm => by
      show TK σ s1 (nI m) (fig (nI m) 0 9) 1 t 0
      rw [← dig_fig0 m hm]; exact T0 c1 (nI m))
    have not7 : ∀ p kk s1', p < 7 → CS σ s1' p kk 0 → ¬ gF s1' 4 1 = 7 := by
      intro p kk s1' hp h z
      rw [h.2.1] at z
      have := (nI_inj (b := 7) (by omega) (by omega)).mp z
      omega
    cases b0 : fig (atP (gA σ 3) P l) 0 9 with
    | false =>
      obtain ⟨s1', q1, q2, q3⟩ := p0a b0
      rw [if_neg (fun z => z rfl), q1]
      exact ⟨l, s1', s2, hlP, rfl, rfl, q2, mv, ml, Or.inl ⟨m19, fun hr => Or.inl (not7 0 t s1' (by decide) (q3 hr))⟩⟩
    | true =>
      obtain ⟨l0, s1a, q0, c1a⟩ := p0b b0
      rw [if_pos (by decide), bindV_some]
      obtain ⟨p1a, p1b⟩ := rd_pos (fu := fu) (n := n - 1) (l := l + 1) (f := fun c => fig c 0 9) c1a hP hpg (by omega) (by omega) (fig_0 0 (by decide)).1 (fun m hm => by
        show TK σ s1a (nI m) (fig (nI m) 0 9) 2 (t + 1) 0
        rw [← dig_fig0 m hm]; exact T1 c1a (nI m))
      cases b1 : fig (atP (gA σ 3) P (l + 1)) 0 9 with
      | false =>
        obtain ⟨s1', q1, q2, q3⟩ := p1a b1
        rw [if_neg (fun z => z rfl), q0, q1]
        exact ⟨l + 1, s1', s2, by omega, rfl, rfl, q2, mv, ml, Or.inl ⟨m19, fun hr => Or.inl (not7 1 t s1' (by decide) (q3 hr))⟩⟩
      | true =>
        obtain ⟨l1, s1b, q1, c1b⟩ := p1b b1
        rw [if_pos (by decide), bindV_some, q0, q1]
        have hT' : ∀ i, i < t + 1 → treeOK (gA σ 3) (3 * i) := by
          intro i hi
          by_cases q : i = t
          · subst q
            rw [← hl]
            exact ⟨(atP_lt (f := fun c => fig c 0 9) (fig_0 0 (by decide)).1 b0).2, (atP_lt (f := fun c => fig c 0 9) (fig_0 0 (by decide)).1 b1).2⟩
          · exact hT i (by omega)
        by_cases q59 : atP (gA σ 3) P (l + 2) = 59
        · have hlt : l + 2 < P := by
            rw [atP] at q59
            by_cases q : l + 2 < P
            · exact q
            · rw [if_neg q] at q59; exact absurd q59 (by decide)
          rw [if_neg (fun z => z q59)]
          rw [atP, if_pos hlt] at q59
          obtain ⟨s1c, e, -, hc⟩ := T2e c1b
          rw [← q59] at e
          have e' := rd_in (fu := fu) (n := n - 1 - 1) (l := l + 1 + 1) c1b.1 hP h46 hlt (by omega) e
          rw [ifT] at e'
          rw [e', nI_1]
          have hj := cases_joint (fu := fu) (t := t + 1) hP hP2 hpg hsame (by omega) (by omega) hT' 6 0 (l + 2 + 1) (n - 1 - 1 - 1) fu s1c (sF s2 91 20 (nI (t + 1))) (by omega) (by omega) (by omega) (by omega) (by omega) (hc rfl) ms' (fun j hj => absurd hj (by omega))
          obtain ⟨r, x1, x2, y1, y2, y3, y4⟩ := hj
          refine ⟨r, x1, x2, y1, y2, ?_, y4⟩
          rw [Mo_readCases, y3]
          rfl
        · rw [if_pos q59]
          have hstop : (nI (t + 1) = 3) = (t + 1 = 3) := propext (nI_inj (b := 3) (by omega) (by omega))
          have hTK : ∀ m, m < 127 → nI m ≠ 59 → TK σ s1b (nI m) (nI m == 44 && decide (t + 1 < 3)) 0 (t + 1) 0 := fun m hm hne => T2 c1b (by omega) hne
          have outs : ∀ s1', Rd_firstFault_L17 fu K0 (n - 1 - 1) (nI (l + 1 + 1)) s1b = some (nI (l + 2), s1') → vw s1' = vw σ → (l + 2 = P → CS σ s1' 2 (t + 1) 0) → Out σ σm P (Rd_firstFault_L17 fu K0 (n - 1 - 1) (nI (l + 1 + 1)) s1b) (some (nI (l + 2), sF s2 91 20 (nI (t + 1)))) := by
            intro s1' e v h
            rw [e]
            exact ⟨l + 2, s1', _, by omega, rfl, rfl, v, ms'.1, ml, Or.inl ⟨ms'.2.2.2.2, fun hr => Or.inl (not7 2 (t + 1) s1' (by decide) (h hr))⟩⟩
          by_cases hlt : l + 2 < P
          · have eP : atP (gA σ 3) P (l + 2) = gA σ 3 (l + 2) := by rw [atP, if_pos hlt]
            obtain ⟨c, cc1, cc2, cc3⟩ := hpg.2 (l + 2) hlt
            rw [eP, cc1] at q59
            obtain ⟨s1c, e, v', hc⟩ := hTK c (by omega) q59
            rw [← cc1] at e hc
            have e' := rd_in (fu := fu) (n := n - 1 - 1) (l := l + 1 + 1) c1b.1 hP h46 hlt (by omega) e
            rw [e20, eP]
            by_cases q : gA σ 3 (l + 2) = 44 ∧ t + 1 < 3
            · have eb : (gA σ 3 (l + 2) == 44 && decide (t + 1 < 3)) = true := by rw [q.1]; simp; omega
              rw [eb, ifT] at e'
              rw [if_neg (by rw [hstop]; omega), bindV_some, if_pos q.1, e', nI_1]
              exact next s1c _ q.2 (by omega) (hc eb) ms' hT'
            · have eb : (gA σ 3 (l + 2) == 44 && decide (t + 1 < 3)) = false := by
                rw [Bool.and_eq_false_iff]
                by_cases q44 : gA σ 3 (l + 2) = 44
                · right
                  rw [decide_eq_false_iff_not]
                  exact fun z => q ⟨q44, z⟩
                · left
                  simpa using q44
              rw [eb, ifF] at e'
              have := outs s1c e' v' (fun z => absurd z (by omega))
              by_cases q3 : t + 1 = 3
              · rw [if_pos (by rw [hstop]; exact q3)]
                exact this
              · rw [if_neg (by rw [hstop]; exact q3), bindV_some, if_neg (fun z => q ⟨z, by omega⟩)]
                exact this
          · have hlP : l + 2 = P := by omega
            have eP : atP (gA σ 3) P (l + 2) = 0 := by rw [atP, if_neg hlt]
            have e' : Rd_firstFault_L17 fu K0 (n - 1 - 1) (nI (l + 1 + 1)) s1b = some (nI (l + 2), s1b) := by
              rw [show l + 1 + 1 = l + 2 from rfl, hlP]
              exact rd_end c1b.1 hP (by omega)
            have := outs s1b e' c1b.1 (fun _ => c1b)
            rw [e20, eP]
            by_cases q3 : t + 1 = 3
            · rw [if_pos (by rw [hstop]; exact q3)]
              exact this
            · rw [if_neg (by rw [hstop]; exact q3), bindV_some, if_neg (by decide)]
              exact this
  intro m
  induction m with
  | zero =>
    intro t l n n' s1 s2 hk hl hlP hn hn' c1 ms hK
    exact main t l n n' s1 s2 (by omega) hl hlP hn (by omega) c1 ms hK (fun s1' s2' h => absurd h (by omega))
  | succ m ih =>
    intro t l n n' s1 s2 hk hl hlP hn hn' c1 ms hK
    exact main t l n n' s1 s2 (by omega) hl hlP hn (by omega) c1 ms hK (fun s1' s2' h1 h2 h3 h4 h5 => ih (t + 1) (l + 3) (n - 3) (n' - 1) s1' s2' (by omega) (by omega) h2 (by omega) (by omega) h3 h4 h5)
theorem read_joint {σ σm : Sg} {P fu : Nat} (hfu : 1000 ≤ fu) (hP : gF σ 1 1 = nI P) (hP2 : gF σm 91 17 = nI P) (hpg : pgOK (gA σ 3) P) (hsame : gA σ 3 = gA σm 101) : Out σ σm P (Rd_firstFault fu σ) (Mo_read fu σm) := by
  have h46 := hpg.1
  refine trees_joint hfu hP hP2 hpg hsame 2 0 0 fu fu _ _ (by omega) (by omega) (by omega) (by omega) (by omega) ?_ ?_ (fun i hi => absurd hi (by omega))
  · exact ⟨by rw [vw_sF (by rfl), vw_sF (by rfl), vw_sF (by rfl)], rfl, rfl, rfl⟩
  · exact ⟨by rw [vw_sF (by rfl), vw_sF (by rfl), vw_sF (by rfl)], rfl, rfl, rfl, rfl⟩
theorem op_fault {t fu : Nat} (hfu : 1000 ≤ fu) {σ : Sg} (h : Inv t σ) : opP t (Co_fault fu σ) (fun s => Mo_fault fu s) := by
  have hI : Inv (t + 1) σ := h.mono (by omega)
  obtain ⟨N, T, R, i1, i2, i3, i4, ⟨⟨P, p1, p2, p3, p4⟩, p5⟩, i6, i7⟩ := h
  obtain ⟨r, s1, s2, hr, e1, e2, v1, -⟩ := read_joint (σ := σ) (σm := σ) hfu p1 p2 ⟨p3, p4⟩ p5
  obtain ⟨r', s1', s2', hr', e1', e2', -, v2', -⟩ := read_joint (σ := σ) (σm := s1) hfu p1 (by rw [vw_gF v1 (by rfl)]; exact p2) ⟨p3, p4⟩ (by rw [vw_gA v1 (by rfl)]; exact p5)
  have er : r' = r := by
    rw [e1] at e1'
    have := (Prod.mk.inj (Option.some.inj e1')).1
    exact ((nI_inj (by omega) (by omega)).mp this).symm
  subst er
  refine ⟨nI r', s1, s2', by rw [Co_fault, e1, bindP_some], ?_, hI.of_vw (v2'.trans v1)⟩
  show Mo_fault fu s1 = _
  rw [Mo_fault, e2', bindP_some]
