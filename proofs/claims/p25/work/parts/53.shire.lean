/-! THE SHIRE READ IN: what hangs below -/
theorem allS_bt {ha : Nat → Int32} {N c h : Nat} (hN : N ≤ 7) (hch : c < h) (hh : h < N) (hok : ha h = -1 ∨ ∃ g, g < h ∧ ha h = nI g) : bt (allS ha N c) h = (if ha h = nI c then true else if ha h = -1 then false else hasX (allS ha N c) (ha h)) := by
  -- the fold up to h, then the step at h, then what comes behind
  let f : Nat → Int32 → Int32 := fun i a => a ||| (if ha i = nI c then bitI i else if ha i = -1 then 0 else if hasX a (ha i) then bitI i else 0)
  have split : allS ha N c = fo f (N - (h + 1)) (h + 1) (f h (fo f (h - (c + 1)) (c + 1) 0)) := by
    show fo f (N - (c + 1)) (c + 1) 0 = _
    rw [show N - (c + 1) = (h - (c + 1)) + ((N - (h + 1)) + 1) by omega, fo_add, show c + 1 + (h - (c + 1)) = h by omega, fo]
  have low : ∀ m a i, i < h + 1 → h + 1 + m ≤ 7 → bt (fo f m (h + 1) a) i = bt a i := by
    intro m
    induction m with
    | zero => intro a i _ _; rfl
    | succ m ih =>
      intro a i hi hm
      rw [fo_succ]
      show bt (fo f m (h + 1) a ||| (if ha (h + 1 + m) = nI c then bitI (h + 1 + m) else if ha (h + 1 + m) = -1 then 0 else if hasX (fo f m (h + 1) a) (ha (h + 1 + m)) then bitI (h + 1 + m) else 0)) i = _
      have hb : bt (bitI (h + 1 + m)) i = false := by rw [b_bitI (by omega) (by omega), decide_eq_false_iff_not]; omega
      have hz : bt (if ha (h + 1 + m) = nI c then bitI (h + 1 + m) else if ha (h + 1 + m) = -1 then 0 else if hasX (fo f m (h + 1) a) (ha (h + 1 + m)) then bitI (h + 1 + m) else 0) i = false := by
        split
        · exact hb
        · split
          · exact b_0 i
          · split
            · exact hb
            · exact b_0 i
      rw [b_or, hz, Bool.or_false, ih a i hi (by omega)]
  have below : ∀ m, c + 1 + m ≤ 7 → ∀ i, c + 1 + m ≤ i → i < 32 → bt (fo f m (c + 1) 0) i = false := by
    intro m
    induction m with
    | zero => intro _ i _ _; exact b_0 i
    | succ m ih =>
      intro hm i hi hi2
      rw [fo_succ]
      show bt (fo f m (c + 1) 0 ||| (if ha (c + 1 + m) = nI c then bitI (c + 1 + m) else if ha (c + 1 + m) = -1 then 0 else if hasX (fo f m (c + 1) 0) (ha (c + 1 + m)) then bitI (c + 1 + m) else 0)) i = _
      have hb : bt (bitI (c + 1 + m)) i = false := by rw [b_bitI (by omega) hi2, decide_eq_false_iff_not]; omega
      have hz : bt (if ha (c + 1 + m) = nI c then bitI (c + 1 + m) else if ha (c + 1 + m) = -1 then 0 else if hasX (fo f m (c + 1) 0) (ha (c + 1 + m)) then bitI (c + 1 + m) else 0) i = false := by
        split
        · exact hb
        · split
          · exact b_0 i
          · split
            · exact hb
            · exact b_0 i
      rw [b_or, hz, Bool.or_false, ih (by omega) i (by omega) hi2]
  have h0 : bt (fo f (h - (c + 1)) (c + 1) 0) h = false := below _ (by omega) h (by omega) (by omega)
  rw [split, low _ _ h (by omega) (by omega)]
  show bt (fo f (h - (c + 1)) (c + 1) 0 ||| (if ha h = nI c then bitI h else if ha h = -1 then 0 else if hasX (fo f (h - (c + 1)) (c + 1) 0) (ha h) then bitI h else 0)) h = _
  rw [b_or, h0, Bool.false_or]
  have hb : bt (bitI h) h = true := by rw [b_bitI (by omega) (by omega)]; simp
  by_cases q1 : ha h = nI c
  · rw [if_pos q1, if_pos q1, hb]
  · rw [if_neg q1, if_neg q1]
    by_cases q2 : ha h = -1
    · rw [if_pos q2, if_pos q2, b_0]
    · rw [if_neg q2, if_neg q2]
      rcases hok with q | ⟨g, g1, g2⟩
      · exact absurd q q2
      · have e : hasX (fo f (N - (h + 1)) (h + 1) (f h (fo f (h - (c + 1)) (c + 1) 0))) (ha h) = hasX (fo f (h - (c + 1)) (c + 1) 0) (ha h) := by
          rw [g2, hasX_bt _ (by omega), hasX_bt _ (by omega), low _ _ g (by omega) (by omega)]
          show bt (fo f (h - (c + 1)) (c + 1) 0 ||| (if ha h = nI c then bitI h else if ha h = -1 then 0 else if hasX (fo f (h - (c + 1)) (c + 1) 0) (ha h) then bitI h else 0)) g = _
          have hb2 : bt (bitI h) g = false := by rw [b_bitI (by omega) (by omega), decide_eq_false_iff_not]; omega
          have hz : bt (if ha h = nI c then bitI h else if ha h = -1 then 0 else if hasX (fo f (h - (c + 1)) (c + 1) 0) (ha h) then bitI h else 0) g = false := by
            rw [if_neg q1, if_neg q2]
            cases hasX (fo f (h - (c + 1)) (c + 1) 0) (ha h)
            · exact b_0 g
            · exact hb2
          rw [b_or, hz, Bool.or_false]
        rw [e]
        cases hasX (fo f (h - (c + 1)) (c + 1) 0) (ha h)
        · exact b_0 h
        · exact hb
theorem allS_lo {ha : Nat → Int32} {N c h : Nat} (hN : N ≤ 7) (hc : c < N) (hh : h ≤ c) : bt (allS ha N c) h = false := by
  obtain ⟨M, h1, -, h3⟩ := allS_bits ha hN hc
  rw [h1, b_nI _ (by omega)]
  exact h3 h hh
/-- up from a case: each one on the way gets the new case's bit -/
theorem walk_up {fu j : Nat} {ha : Nat → Int32} (hj : j < 7) (hok : ∀ i, i < j → ha i = -1 ∨ ∃ g, g < i ∧ ha i = nI g) (K : Sg → Option Sg) : ∀ h d n (s : Sg), h < j → d + h < 7 → h + 1 < n → (∀ i, i < j → gA s 17 i = ha i) → ∃ s', Sh_addSuit_L94 fu 5 (nI j) (fun _ _ s17 => K s17) n (nI h) (nI d) s = K s' ∧ (∀ a, a ≠ 21 → gA s' a = gA s a) ∧ gF s' = gF s ∧ gL s' = gL s ∧ (∀ c, c < j → gA s' 21 c = gA s 21 c ||| (if c = h ∨ bt (allS ha j c) h = true then bitI j else 0)) ∧ ∀ c, j ≤ c → gA s' 21 c = gA s 21 c := by
  intro h
  induction h using Nat.strongRecOn with
  | ind h ih =>
    intro d n s hh hd hn hs
    obtain ⟨n, rfl⟩ : ∃ q, n = q + 1 := ⟨n - 1, by omega⟩
    have hd7 : ¬ (7 : Int32) ≤ nI d := fun z => by have := (nI_leI (a := 7) (b := d) (by omega) (by omega)).mp z; omega
    have step : Sh_addSuit_L94 fu 5 (nI j) (fun _ _ s17 => K s17) (n + 1) (nI h) (nI d) s = Sh_addSuit_L94 fu 5 (nI j) (fun _ _ s17 => K s17) n (ha h) (nI (d + 1)) (sA s 21 h (gA s 21 h ||| bitI j)) := by
      have e17 : gA (sA s 21 h (gA s 21 h ||| bitI j)) 17 h = ha h := by rw [gA_sA_other (by decide), hs h hh]
      rw [Sh_addSuit_L94, if_neg hd7, if_neg (nI_nem1 (by omega)), at_bl5 (by omega), bindV_some, Co_bit_is, bindV_some, Rw_put_in (n := 7) rfl (by omega) (by decide), bindV_some, Rw_at_in (n := 7) rfl (by omega) (by decide), bindV_some, nI_1]
      show Sh_addSuit_L94 fu 5 (nI j) _ n (gA (sA s 21 h (gA s 21 h ||| bitI j)) 17 h) _ _ = _
      rw [e17]
    rw [step]
    have e21 : ∀ c, gA (sA s 21 h (gA s 21 h ||| bitI j)) 21 c = if c = h then gA s 21 h ||| bitI j else gA s 21 c := fun c => by rw [gA_sA_same]
    rcases hok h hh with q | ⟨g, g1, g2⟩
    · obtain ⟨n, rfl⟩ : ∃ q, n = q + 1 := ⟨n - 1, by omega⟩
      rw [q]
      refine ⟨sA s 21 h (gA s 21 h ||| bitI j), ?_, fun a ha' => gA_sA_other ha', rfl, rfl, fun c hc => ?_, fun c hc => ?_⟩
      · rw [Sh_addSuit_L94]
        by_cases z : (7 : Int32) ≤ nI (d + 1)
        · rw [if_pos z]
        · rw [if_neg z, if_pos rfl]
      · rw [e21]
        by_cases qc : c = h
        · rw [if_pos qc, if_pos (Or.inl qc), qc]
        · have hb : bt (allS ha j c) h = false := by
            by_cases hlt : c < h
            · rw [allS_bt (by omega) hlt hh (hok h hh), q, if_neg (fun z => nI_nem1 (show c < 2147483648 by omega) z.symm), if_pos rfl]
            · exact allS_lo (by omega) hc (by omega)
          rw [if_neg qc, if_neg (by rw [hb]; simp [qc]), or0]
      · rw [e21, if_neg (by omega)]
    · rw [g2]
      obtain ⟨s', w1, w2, w3, w3', w4, w5⟩ := ih g g1 (d + 1) n (sA s 21 h (gA s 21 h ||| bitI j)) (by omega) (by omega) (by omega) (fun i hi => by rw [gA_sA_other (by decide)]; exact hs i hi)
      refine ⟨s', w1, fun a ha' => by rw [w2 a ha', gA_sA_other ha'], w3, w3', fun c hc => ?_, fun c hc => ?_⟩
      · rw [w4 c hc, e21]
        by_cases qc : c = h
        · have hb : bt (allS ha j c) g = false := allS_lo (by omega) hc (by omega)
          rw [if_pos qc, if_pos (Or.inl qc), if_neg (by rw [hb]; simp; omega), or0, qc]
        · rw [if_neg qc]
          have e : (c = g ∨ bt (allS ha j c) g = true) ↔ (c = h ∨ bt (allS ha j c) h = true) := by
            by_cases hlt : c < h
            · rw [allS_bt (by omega) hlt hh (hok h hh), g2, if_neg (nI_nem1 (show g < 2147483648 by omega)), hasX_bt _ (by omega)]
              by_cases qg : g = c
              · subst qg; simp
              · rw [if_neg (fun z => qg ((nI_inj (by omega) (by omega)).mp z))]
                simp [qc, Ne.symm qg]
            · have h1 : bt (allS ha j c) g = false := allS_lo (by omega) hc (by omega)
              have h2 : bt (allS ha j c) h = false := allS_lo (by omega) hc (by omega)
              rw [h1, h2]
              simp
              omega
          by_cases qe : c = g ∨ bt (allS ha j c) g = true
          · rw [if_pos qe, if_pos (e.mp qe)]
          · rw [if_neg qe, if_neg (fun z => qe (e.mpr z))]
      · rw [w5 c hc, e21, if_neg (by omega)]
