/-! THE CENTURIES IN THE MODEL -/
def relX (k j : Nat) : Bool := relF k j && !(k == 91 && j == 9)
def relAX (k : Nat) : Bool := relA k && !(k == 92)
def vx (σ : Sg) : Sg := (fun k j => if relX k j = true then σ.1 k j else 0, fun k i => if relAX k = true then σ.2.1 k i else 0, fun _ _ => 0)
theorem vx_sF {σ : Sg} {k j : Nat} {v : Int32} (h : relX k j = false) : vx (sF σ k j v) = vx σ := by
  refine Prod.ext ?_ rfl
  funext a b
  show (if relX a b = true then (if a = k ∧ b = j then v else σ.1 a b) else 0) = if relX a b = true then σ.1 a b else 0
  by_cases hr : relX a b = true
  · rw [if_pos hr, if_pos hr, if_neg]
    rintro ⟨rfl, rfl⟩
    rw [h] at hr
    cases hr
  · rw [if_neg hr, if_neg hr]
theorem vx_sA {σ : Sg} {k i : Nat} {v : Int32} (h : relAX k = false) : vx (sA σ k i v) = vx σ := by
  refine Prod.ext rfl (Prod.ext ?_ rfl)
  funext a b
  show (if relAX a = true then (if a = k ∧ b = i then v else σ.2.1 a b) else 0) = if relAX a = true then σ.2.1 a b else 0
  by_cases hr : relAX a = true
  · rw [if_pos hr, if_pos hr, if_neg]
    rintro ⟨rfl, -⟩
    rw [h] at hr
    cases hr
  · rw [if_neg hr, if_neg hr]
theorem vx_yrA {σ : Sg} {be bi n : Nat} (h : relAX be = false) : vx (yrA σ be bi n) = vx σ := by
  refine Prod.ext rfl (Prod.ext ?_ rfl)
  funext a b
  show (if relAX a = true then (if a = be ∧ b < n then yv (σ.2.1 be b) (σ.2.1 bi b) else σ.2.1 a b) else 0) = if relAX a = true then σ.2.1 a b else 0
  by_cases hr : relAX a = true
  · rw [if_pos hr, if_pos hr, if_neg]
    rintro ⟨rfl, -⟩
    rw [h] at hr
    cases hr
  · rw [if_neg hr, if_neg hr]
theorem vx_sL {σ : Sg} {k j : Nat} {v : Int64} : vx (sL σ k j v) = vx σ := rfl
theorem vx_gF {s σ : Sg} (h : vx s = vx σ) {k j : Nat} (hr : relX k j = true) : gF s k j = gF σ k j := by
  have e : (vx s).1 k j = (vx σ).1 k j := by rw [h]
  have e1 : ∀ τ : Sg, (vx τ).1 k j = gF τ k j := fun τ => by
    show (if relX k j = true then τ.1 k j else 0) = τ.1 k j
    rw [if_pos hr]
  rw [e1, e1] at e
  exact e
theorem vx_gA {s σ : Sg} (h : vx s = vx σ) {k : Nat} (hr : relAX k = true) : gA s k = gA σ k := by
  funext i
  have e : (vx s).2.1 k i = (vx σ).2.1 k i := by rw [h]
  have e1 : ∀ τ : Sg, (vx τ).2.1 k i = gA τ k i := fun τ => by
    show (if relAX k = true then τ.2.1 k i else 0) = τ.2.1 k i
    rw [if_pos hr]
  rw [e1, e1] at e
  exact e
theorem vw_of_vx {s σ : Sg} (h : vx s = vx σ) (h1 : gF s 91 9 = gF σ 91 9) (h2 : gA s 92 = gA σ 92) : vw s = vw σ := by
  refine Prod.ext ?_ (Prod.ext ?_ rfl)
  · funext a b
    show (if relF a b = true then s.1 a b else 0) = if relF a b = true then σ.1 a b else 0
    by_cases hr : relF a b = true
    · rw [if_pos hr, if_pos hr]
      by_cases q : a = 91 ∧ b = 9
      · obtain ⟨rfl, rfl⟩ := q
        exact h1
      · refine vx_gF h ?_
        rw [relX, hr]
        simp
        omega
    · rw [if_neg hr, if_neg hr]
  · funext a b
    show (if relA a = true then s.2.1 a b else 0) = if relA a = true then σ.2.1 a b else 0
    by_cases hr : relA a = true
    · rw [if_pos hr, if_pos hr]
      by_cases q : a = 92
      · subst q
        exact congrFun h2 b
      · refine congrFun (vx_gA h ?_) b
        rw [relAX, hr]
        simpa using q
    · rw [if_neg hr, if_neg hr]
theorem vx_of_vw {s σ : Sg} (h : vw s = vw σ) : vx s = vx σ := by
  refine Prod.ext ?_ (Prod.ext ?_ rfl)
  · funext a b
    show (if relX a b = true then s.1 a b else 0) = if relX a b = true then σ.1 a b else 0
    by_cases hr : relX a b = true
    · rw [if_pos hr, if_pos hr]
      refine vw_gF h ?_
      rw [relX, Bool.and_eq_true] at hr
      exact hr.1
    · rw [if_neg hr, if_neg hr]
  · funext a b
    show (if relAX a = true then s.2.1 a b else 0) = if relAX a = true then σ.2.1 a b else 0
    by_cases hr : relAX a = true
    · rw [if_pos hr, if_pos hr]
      refine congrFun (vw_gA h ?_) b
      rw [relAX, Bool.and_eq_true] at hr
      exact hr.1
    · rw [if_neg hr, if_neg hr]
def RM (σ : Sg) (a : CA) (p : Int32 × Sg) : Prop := vx p.2 = vx σ ∧ p.1 = a.cn ∧ gF p.2 91 9 = a.r ∧ gL p.2 91 30 = nL a.sd ∧ (∀ i, i < 3 → gA p.2 92 i = a.be i ∧ gA p.2 108 i = gA σ 92 i) ∧ ∀ i, 3 ≤ i → gA p.2 92 i = gA σ 92 i
theorem RM_step {σ : Sg} {p : Int32 × Sg} {N T fu : Nat} {a : CA} (hfu : 1000 ≤ fu) (i2 : I2 σ N) (hn : gF σ 91 2 = nI N) (ht : gF σ 91 1 = nI T) (hN : 0 < N) (hN7 : N ≤ 7) (hT : 0 < T) (hT3 : T ≤ 3) (h : RM σ a p) (l1 l3 l4 : Int32) (kont : Int32 → Int32 → Sg → Option (Int32 × Sg)) (n i : Nat) (hi : ¬ l1 ≤ nI i) : ∃ p', Mo_centuriesNow_L47 fu l1 l3 l4 kont (n + 1) p.1 (nI i) p.2 = Mo_centuriesNow_L47 fu l1 l3 l4 kont n p'.1 (nI (i + 1)) p'.2 ∧ RM σ (stA σ N T a) p' := by
  obtain ⟨q, s⟩ := p
  obtain ⟨v, pc, fr, fs, fb, fk⟩ := h
  have v' : vx s = vx σ := v
  have pc' : q = a.cn := pc
  have fr' : gF s 91 9 = a.r := fr
  have fs' : gL s 91 30 = nL a.sd := fs
  have fb' : ∀ i, i < 3 → gA s 92 i = a.be i ∧ gA s 108 i = gA σ 92 i := fb
  have fk' : ∀ i, 3 ≤ i → gA s 92 i = gA σ 92 i := fk
  have hc := Nat.mod_lt (nx a.sd / 65536) hN
  have hu := Nat.mod_lt (nx (nx a.sd) / 65536) hT
  have e1 := Mo_draw_is (σ := s) (n := N) (by omega) hN fs'
  have e2 := Mo_draw_is (σ := sL s 91 30 (nL (nx a.sd))) (n := T) (by omega) hT (gL_sL1 _ _ _ _)
  rw [sL_sL] at e2
  generalize hs2 : sL s 91 30 (nL (nx (nx a.sd))) = s2 at e2
  have w : vx s2 = vx σ := by rw [← hs2, vx_sL]; exact v'
  have sr : gF s2 91 9 = a.r := by rw [← hs2]; exact fr'
  have sl : gL s2 91 30 = nL (nx (nx a.sd)) := by rw [← hs2]; exact gL_sL1 _ _ _ _
  have sb : ∀ i, i < 3 → gA s2 92 i = a.be i ∧ gA s2 108 i = gA σ 92 i := by rw [← hs2]; exact fb'
  have sk : ∀ i, 3 ≤ i → gA s2 92 i = gA σ 92 i := by rw [← hs2]; exact fk'
  have i2' := i2
  obtain ⟨⟨d1, d2, d3, d4, d5, d6⟩, -, d7⟩ := i2'
  have n2 : gF s2 91 2 = nI N := by rw [vx_gF w (by rfl)]; exact hn
  have t2 : gF s2 91 1 = nI T := by rw [vx_gF w (by rfl)]; exact ht
  have e3 := Mo_mayRight_is (σ := s2) (c := nx a.sd / 65536 % N) (t := nx (nx a.sd) / 65536 % T) n2 hN7 hfu (by omega) (by omega)
  rw [vx_gA (k := 94) w (by rfl), vx_gA (k := 95) w (by rfl), vx_gA (k := 97) w (by rfl), sr, (sb _ (show nx (nx a.sd) / 65536 % T < 3 by omega)).1, costs_two i2 hc, ← d3, ← d6] at e3
  have ok : (openS (gA σ 11) (gA σ 17) a.r (nx a.sd / 65536 % N) && !decide (a.be (nx (nx a.sd) / 65536 % T) < costS (gA σ 11 (nx a.sd / 65536 % N)) (gA σ 13 (nx a.sd / 65536 % N)) (gA σ 19 (nx a.sd / 65536 % N)))) = okA σ N T a := by rw [okA, coA]
  rw [ok] at e3
  have n1' : gF s 91 2 = nI N := by rw [vx_gF v' (by rfl)]; exact hn
  have t1' : gF (sL s 91 30 (nL (nx a.sd))) 91 1 = nI T := by
    show gF s 91 1 = nI T
    rw [vx_gF v' (by rfl)]; exact ht
  show ∃ p', Mo_centuriesNow_L47 fu l1 l3 l4 kont (n + 1) q (nI i) s = _ ∧ _
  rw [Mo_centuriesNow_L47, if_neg hi, n1', e1, bindP_some, t1', e2, bindP_some, e3, bindV_some, stA]
  cases okA σ N T a with
  | false =>
    rw [if_pos (by rfl), if_neg (by decide), Mo_goYear_is (T := T) t2 hT3 hfu, bindV_some, nI_1]
    refine ⟨(q, yrA s2 92 93 T), rfl, by rw [vx_yrA (by rfl)]; exact w, ?_, ?_, ?_, fun j hj => ⟨?_, (sb j hj).2⟩, fun j hj => ?_⟩
    · rw [cn_of]; exact pc'
    · rw [r_of]; exact sr
    · rw [sd_of]; exact sl
    · rw [be_of]
      show (if 92 = 92 ∧ j < T then yv (gA s2 92 j) (gA s2 93 j) else gA s2 92 j) = if j < T then yv (a.be j) (gA σ 9 j) else a.be j
      rw [(sb j hj).1, vx_gA (k := 93) w (by rfl), d2]
      simp
    · show (if 92 = 92 ∧ j < T then yv (gA s2 92 j) (gA s2 93 j) else gA s2 92 j) = _
      rw [if_neg (by omega)]
      exact sk j hj
  | true =>
    have hin : inb (nI (nx (nx a.sd) / 65536 % T)) 3 = true := inb_nI (by omega) (by decide)
    have ec := Mo_cost_is (σ := s2) (c := nx a.sd / 65536 % N) n2 hN7 hfu (by omega)
    rw [vx_gA (k := 94) w (by rfl), vx_gA (k := 95) w (by rfl), vx_gA (k := 97) w (by rfl), costs_two i2 hc] at ec
    have ea : ∀ x y, Mo_allOn fu (sA s2 92 x y) (nI (nx a.sd / 65536 % N)) = some (gA σ 21 (nx a.sd / 65536 % N)) := by
      intro x y
      rw [Mo_allOn_is (σ := sA s2 92 x y) n2 hN7 hfu hc, gA_sA_other (by decide), vx_gA (k := 97) w (by rfl), ← d6, ← (d7 _ hc).2]
    rw [if_neg (by decide), if_pos rfl, if_pos hin, ec, bindV_some, if_pos hin, ea, bindV_some, ix_nI (by omega), nI_1]
    rw [gF_sA]
    have step : ∀ s', (Mo_centuriesNow_L47 fu l1 l3 l4 kont n (q + 1) (nI (i + 1)) s') = Mo_centuriesNow_L47 fu l1 l3 l4 kont n ((q + 1, s') : Int32 × Sg).1 (nI (i + 1)) ((q + 1, s') : Int32 × Sg).2 := fun _ => rfl
    refine ⟨_, step _, ?_, ?_, ?_, ?_, fun j hj => ⟨?_, ?_⟩, fun j hj => ?_⟩
    · show vx (sF (sA s2 92 _ _) 91 9 _) = _
      rw [vx_sF (by rfl), vx_sA (by rfl)]; exact w
    · rw [cn_of, ← pc']
    · rw [r_of]
      show (gF s2 91 9 &&& (gA σ 21 (nx a.sd / 65536 % N) ^^^ (-1))) ||| (1 : Int32) <<< (nI (nx a.sd / 65536 % N) &&& 31) = _
      rw [sr, (d7 _ hc).2, right_two' (r := a.r) (b := bitI (nx a.sd / 65536 % N)) (allS_apart (gA σ 17) hN7 hc), bitI]
    · rw [sd_of]; exact sl
    · rw [be_of]
      show (if 92 = 92 ∧ j = nx (nx a.sd) / 65536 % T then gA s2 92 (nx (nx a.sd) / 65536 % T) - costS (gA σ 11 (nx a.sd / 65536 % N)) (gA σ 13 (nx a.sd / 65536 % N)) (gA σ 19 (nx a.sd / 65536 % N)) else gA s2 92 j) = if j = nx (nx a.sd) / 65536 % T then a.be j - coA σ (nx a.sd / 65536 % N) else a.be j
      rw [(sb j hj).1]
      by_cases q : j = nx (nx a.sd) / 65536 % T
      · rw [if_pos (And.intro rfl q), if_pos q, ← q, (sb j hj).1, coA, q]
      · rw [if_neg (fun z => q z.2), if_neg q]
    · show gA (sF (sA s2 92 _ _) 91 9 _) 108 j = _
      rw [gA_sF1, gA_sA_other (by decide)]; exact (sb j hj).2
    · show gA (sF (sA s2 92 _ _) 91 9 _) 92 j = _
      rw [gA_sF1, gA_sA, if_neg (by omega)]
      exact sk j hj
theorem Mo_centuriesNow_is {σ : Sg} {N T fu k ti : Nat} (hfu : 1000 ≤ fu) (i2 : I2 σ N) (hn : gF σ 91 2 = nI N) (ht : gF σ 91 1 = nI T) (hr : gF σ 91 9 = gF σ 5 11) (hN : 0 < N) (hN7 : N ≤ 7) (hT : 0 < T) (hT3 : T ≤ 3) (hk : k < 2147483648) (hti : ti ≤ 60) (w : Int32) : ∃ s, Mo_centuriesNow fu σ (nI ti) (nI k) w = some (if w = 0 then (itA σ N T k ti).cn else if w = 1 then worthS (gA σ 15) N (itA σ N T k ti).r else (nL (itA σ N T k ti).sd).toInt32, s) ∧ vw s = vw σ := by
  rw [Mo_centuriesNow, toL hk]
  generalize hr0 : gF σ 91 9 = r0
  generalize hK1 : (fun (l5_2 : Int32) (s3 : Sg) => Mo_centuriesNow_L47 fu (nI ti) w r0 (fun l5_14 l6_15 s16 => bindV (Mo_worthIn fu s16 (gF s16 91 9)) fun r17 => Mo_centuriesNow_L157 fu w l5_14 r17 (fun l7_19 s20 => if ¬ w = 0 then (if ¬ w = (1 : Int32) then (some ((gL s20 91 30).toInt32, s20)) else (some (r17, s20))) else (some (l5_14, s20))) fu (0 : Int32) (sF s16 91 9 r0)) fu (0 : Int32) (0 : Int32) (sL s3 91 30 (nL k))) = K1
  obtain ⟨s1, ⟨v1, b1⟩, e1⟩ := loop_ex (N := 3) (L := fun n (s : Sg) i => Mo_centuriesNow_L9 fu (nI ti) (nI k) w r0 K1 n i s) (kont := fun s i => K1 i s) (fun i s => vw s = vw σ ∧ ∀ j, j < i → gA s 108 j = gA σ 92 j) (by
    rintro n s i hi ⟨v, b⟩
    have hin : inb (nI i) 3 = true := inb_nI hi (by decide)
    refine ⟨sA s 108 i (gA s 92 i), ?_, by rw [vw_sA (by rfl)]; exact v, ?_⟩
    · show Mo_centuriesNow_L9 fu (nI ti) (nI k) w r0 K1 (n + 1) (nI i) s = _
      rw [Mo_centuriesNow_L9, if_neg (fun z => by have := (nI_leI (a := 3) (by omega) (by omega)).mp z; omega), if_pos hin, if_pos hin, ix_nI (by omega), nI_1]
    · intro j hj
      rw [gA_sA_same]
      by_cases q : j = i
      · simp [q, vw_gA v (show relA 92 = true by rfl)]
      · simp [q, b j (by omega)]) (by
    rintro n s -
    show Mo_centuriesNow_L9 fu (nI ti) (nI k) w r0 K1 (n + 1) (nI 3) s = _
    rw [Mo_centuriesNow_L9, if_pos (by decide)]) 3 fu σ 0 rfl (by omega) ⟨rfl, fun j hj => absurd hj (by omega)⟩
  have e1' : Mo_centuriesNow_L9 fu (nI ti) (nI k) w r0 K1 fu (0 : Int32) σ = K1 (nI 3) s1 := e1
  rw [e1', ← hK1]
  show ∃ s, Mo_centuriesNow_L47 fu (nI ti) w r0 _ fu (0 : Int32) (0 : Int32) (sL s1 91 30 (nL k)) = _ ∧ _
  generalize hK2 : (fun (l5_14 l6_15 : Int32) (s16 : Sg) => bindV (Mo_worthIn fu s16 (gF s16 91 9)) fun r17 => Mo_centuriesNow_L157 fu w l5_14 r17 (fun l7_19 s20 => if ¬ w = 0 then (if ¬ w = (1 : Int32) then (some ((gL s20 91 30).toInt32, s20)) else (some (r17, s20))) else (some (l5_14, s20))) fu (0 : Int32) (sF s16 91 9 r0)) = K2
  obtain ⟨⟨q2, s2⟩, ⟨v2, pc2, fr2, fs2, fb2, fk2⟩, e2⟩ := loop_ex (N := ti) (L := fun n (p : Int32 × Sg) i => Mo_centuriesNow_L47 fu (nI ti) w r0 K2 n p.1 i p.2) (kont := fun p i => K2 p.1 i p.2) (fun i p => RM σ (itA σ N T k i) p) (by
    intro n p i hi h
    exact RM_step hfu i2 hn ht hN hN7 hT hT3 h (nI ti) w r0 K2 n i (nI_ge hi (by omega))) (by
    rintro n ⟨q, s⟩ -
    show Mo_centuriesNow_L47 fu (nI ti) w r0 K2 (n + 1) q (nI ti) s = _
    rw [Mo_centuriesNow_L47, if_pos (Int32.le_refl _)]) ti fu (0, sL s1 91 30 (nL k)) 0 (Nat.zero_add _) (by omega) (by
    refine ⟨vx_of_vw v1, rfl, ?_, gL_sL1 s1 91 30 (nL k), fun i hi => ⟨?_, b1 i hi⟩, fun i hi => ?_⟩
    · show gF s1 91 9 = gF σ 5 11
      rw [vw_gF v1 (by rfl), hr]
    · show gA s1 92 i = gA σ 7 i
      rw [vw_gA v1 (by rfl), i2.1.1]
    · show gA s1 92 i = gA σ 92 i
      rw [vw_gA v1 (by rfl)])
  have e2' : Mo_centuriesNow_L47 fu (nI ti) w r0 K2 fu (0 : Int32) (0 : Int32) (sL s1 91 30 (nL k)) = K2 q2 (nI ti) s2 := e2
  have v2' : vx s2 = vx σ := v2
  have pc2' : q2 = (itA σ N T k ti).cn := pc2
  have fr2' : gF s2 91 9 = (itA σ N T k ti).r := fr2
  have fs2' : gL s2 91 30 = nL (itA σ N T k ti).sd := fs2
  have fb2' : ∀ i, i < 3 → gA s2 92 i = (itA σ N T k ti).be i ∧ gA s2 108 i = gA σ 92 i := fb2
  have fk2' : ∀ i, 3 ≤ i → gA s2 92 i = gA σ 92 i := fk2
  generalize itA σ N T k ti = A at pc2' fr2' fs2' fb2' ⊢
  rw [e2', ← hK2]
  show ∃ s, (bindV (Mo_worthIn fu s2 (gF s2 91 9)) fun r17 => Mo_centuriesNow_L157 fu w q2 r17 _ fu (0 : Int32) (sF s2 91 9 r0)) = _ ∧ _
  rw [Mo_worthIn_is (N := N) (by rw [vx_gF v2' (by rfl)]; exact hn) hN7 hfu, bindV_some, vx_gA v2' (by rfl), ← i2.1.2.2.2.2.1, fr2']
  generalize worthS (gA σ 15) N A.r = W
  obtain ⟨s3, ⟨v3, r3, l3, k3, b3⟩, e3⟩ := loop_ex (N := 3) (L := fun n (s : Sg) i => Mo_centuriesNow_L157 fu w q2 W (fun l7_19 s20 => if ¬ w = 0 then (if ¬ w = (1 : Int32) then (some ((gL s20 91 30).toInt32, s20)) else (some (W, s20))) else (some (q2, s20))) n i s) (kont := fun s20 _ => if ¬ w = 0 then (if ¬ w = (1 : Int32) then (some ((gL s20 91 30).toInt32, s20)) else (some (W, s20))) else (some (q2, s20))) (fun i s => vx s = vx σ ∧ gF s 91 9 = r0 ∧ gL s 91 30 = nL A.sd ∧ (∀ j, j < 3 → gA s 108 j = gA σ 92 j) ∧ ∀ j, j < i ∨ 3 ≤ j → gA s 92 j = gA σ 92 j) (by
    rintro n s i hi ⟨v, r, l, kk, b⟩
    have hin : inb (nI i) 3 = true := inb_nI hi (by decide)
    refine ⟨sA s 92 i (gA s 108 i), ?_, by rw [vx_sA (by rfl)]; exact v, r, l, ?_, ?_⟩
    · show Mo_centuriesNow_L157 fu w q2 W _ (n + 1) (nI i) s = _
      rw [Mo_centuriesNow_L157, if_neg (fun z => by have := (nI_leI (a := 3) (by omega) (by omega)).mp z; omega), if_pos hin, if_pos hin, ix_nI (by omega), nI_1]
    · intro j hj
      rw [gA_sA_other (by decide)]
      exact kk j hj
    · intro j hj
      rw [gA_sA_same]
      by_cases q : j = i
      · subst q; simp [kk j hi]
      · simp [q]; exact b j (by omega)) (by
    rintro n s -
    show Mo_centuriesNow_L157 fu w q2 W _ (n + 1) (nI 3) s = _
    rw [Mo_centuriesNow_L157, if_pos (by decide)]) 3 fu (sF s2 91 9 r0) 0 rfl (by omega) ⟨by rw [vx_sF (by rfl)]; exact v2', by rw [gF_sF, if_pos (And.intro rfl rfl)], fs2', fun j hj => (fb2' j hj).2, fun j hj => fk2' j (by omega)⟩
  refine ⟨s3, e3.trans ?_, vw_of_vx v3 (by rw [r3, hr0]) (by funext j; exact b3 j (by omega))⟩
  show (if ¬ w = 0 then (if ¬ w = (1 : Int32) then (some ((gL s3 91 30).toInt32, s3)) else (some (W, s3))) else (some (q2, s3))) = _
  rw [l3, pc2']
  by_cases w0 : w = 0
  · rw [if_neg (fun z => z w0), if_pos w0]
  · by_cases w1 : w = 1
    · rw [if_pos w0, if_neg (fun z => z w1), if_neg w0, if_pos w1]
    · rw [if_pos w0, if_pos w1, if_neg w0, if_neg w1]
theorem sixty_of {w : Int32} (h0 : ¬ w < 1) (h3 : ¬ 60 < w) : ∃ y, 1 ≤ y ∧ y ≤ 60 ∧ w = nI y := by
  have h0' : ¬ w < 0 := fun z => h0 (Int32.lt_trans z (by decide))
  obtain ⟨j, hj, rfl⟩ := nI_of h0'
  refine ⟨j, ?_, ?_, rfl⟩
  · exact Nat.le_of_not_lt (fun z => h0 ((nI_ltI (b := 1) hj (by omega)).mpr z))
  · exact Nat.le_of_not_lt (fun z => h3 ((nI_ltI (a := 60) (by omega) hj).mpr z))
theorem op_centuries {t fu : Nat} (ht : t ≤ 900) (hfu : 1000 ≤ fu) {σ : Sg} (h : Inv t σ) (a b w : Int32) : opP t (Co_centuries fu σ a b w) (fun s => Mo_centuries fu s a b w) := by
  have hI : Inv (t + 1) σ := h.mono (by omega)
  have h' := h
  obtain ⟨N, T, R, ⟨n1, n2, t1, t2, n7, t3, r1, r2, r3, r4, r5⟩, i2, ⟨⟨m, m1, m2, m3⟩, -⟩, -⟩ := h'
  by_cases ha1 : a < 1
  · exact ⟨-102, σ, σ, by rw [Co_centuries, if_pos ha1], by show Mo_centuries fu σ a b w = _; rw [Mo_centuries, within_is, bindV_some, if_pos]; simp [ha1, b2], hI⟩
  by_cases ha6 : 60 < a
  · exact ⟨-102, σ, σ, by rw [Co_centuries, if_neg ha1, if_pos ha6], by show Mo_centuries fu σ a b w = _; rw [Mo_centuries, within_is, bindV_some, if_pos]; simp [ha6, b2], hI⟩
  have haa : b2 (!decide (a < 1) && !decide (60 < a)) = 1 := by simp [ha1, ha6, b2]
  by_cases hb : b < 0
  · exact ⟨-102, σ, σ, by rw [Co_centuries, if_neg ha1, if_neg ha6, if_pos hb], by show Mo_centuries fu σ a b w = _; rw [Mo_centuries, within_is, bindV_some, haa, if_neg (by decide), if_pos hb], hI⟩
  by_cases hw0 : w < 0
  · exact ⟨-102, σ, σ, by rw [Co_centuries, if_neg ha1, if_neg ha6, if_neg hb, if_pos hw0], by show Mo_centuries fu σ a b w = _; rw [Mo_centuries, within_is, bindV_some, haa, if_neg (by decide), if_neg hb, within_is, bindV_some, if_neg]; simp [hw0, b2], hI⟩
  by_cases hw2 : w ≤ 2
  · have hw3 : ¬ 2 < w := Int32.not_lt.mpr hw2
    have hww : b2 (!decide (w < 0) && !decide (2 < w)) = 1 := by simp [hw0, hw3, b2]
    by_cases hR : R = 0
    · have hN0 := (r4 hR).1
      subst hN0
      exact ⟨-103, σ, σ, by rw [Co_centuries, if_neg ha1, if_neg ha6, if_neg hb, if_neg hw0, if_pos hw2, Co_isRead_out (by rw [r1, hR]), bindV_some, if_neg (by decide)], by show Mo_centuries fu σ a b w = _; rw [Mo_centuries, within_is, bindV_some, haa, if_neg (by decide), if_neg hb, within_is, bindV_some, hww, if_pos (by decide), n2, if_neg (by decide)], hI⟩
    · obtain ⟨rN, rT⟩ := r5 (by omega)
      obtain ⟨ti, ti1, ti2, rfl⟩ := sixty_of ha1 ha6
      obtain ⟨k, hk, rfl⟩ := nI_of hb
      obtain ⟨s1, e1, v1, ⟨-, f1⟩, fr, fc, fs, -, fa⟩ := Fo_pass_is (σ := σ) hfu n1 t1 (show 0 < N by omega) n7 (show 0 < T by omega) t3 hk ti2
      have i2s : I2 s1 N := by
        obtain ⟨q1, q2, q3⟩ := i2
        refine ⟨?_, ?_, ?_⟩
        · rw [vw_gA v1 (by rfl), vw_gA v1 (by rfl), vw_gA v1 (by rfl), vw_gA v1 (by rfl), vw_gA v1 (by rfl), vw_gA v1 (by rfl), vw_gA v1 (by rfl), vw_gA v1 (by rfl), vw_gA v1 (by rfl), vw_gA v1 (by rfl), vw_gA v1 (by rfl), vw_gA v1 (by rfl)]
          exact q1
        · rw [vw_gA v1 (by rfl), vw_gA v1 (by rfl), vw_gA v1 (by rfl), vw_gA v1 (by rfl), vw_gA v1 (by rfl), vw_gA v1 (by rfl)]
          exact q2
        · rw [vw_gA v1 (by rfl), vw_gA v1 (by rfl), vw_gA v1 (by rfl)]
          exact q3
      have hit : ∀ i, itA s1 N T k i = itA σ N T k i := by
        intro i
        induction i with
        | zero => rw [itA, itA, vw_gA v1 (by rfl), vw_gF v1 (by rfl)]
        | succ i ih =>
          rw [itA, itA, ih, stA, stA, okA, okA, coA, coA, vw_gA v1 (by rfl), vw_gA v1 (by rfl), vw_gA v1 (by rfl), vw_gA v1 (by rfl), vw_gA v1 (by rfl), vw_gA v1 (by rfl)]
      obtain ⟨s2, e2, v2⟩ := Mo_centuriesNow_is (σ := s1) (N := N) (T := T) (k := k) (ti := ti) hfu i2s (by rw [vw_gF v1 (by rfl), n2]) (by rw [vw_gF v1 (by rfl), t2]) (by rw [vw_gF v1 (by rfl), vw_gF v1 (by rfl), m1, m2]) (by omega) n7 (by omega) t3 hk ti2 w
      rw [hit, vw_gA v1 (by rfl)] at e2
      generalize hval : (if w = 0 then (itA σ N T k ti).cn else if w = 1 then worthS (gA σ 15) N (itA σ N T k ti).r else (nL (itA σ N T k ti).sd).toInt32) = val at e2
      refine ⟨val, s1, s2, ?_, ?_, hI.of_vw (v2.trans v1)⟩
      rotate_left
      · show Mo_centuries fu s1 (nI ti) (nI k) w = _
        rw [Mo_centuries, within_is, bindV_some, haa, if_neg (by decide), if_neg hb, within_is, bindV_some, hww, if_pos (by decide), vw_gF v1 (by rfl), n2, if_pos (nI_ne0 (by omega) (by omega)), e2, bindP_some]
      · rw [Co_centuries, if_neg ha1, if_neg ha6, if_neg hb, if_neg hw0, if_pos hw2, Co_isRead_in r1 (by omega) (by omega), bindV_some, if_pos (by decide), e1, bindV_some, ← hval]
        have f1' : gF s1 67 1 = nI N := f1
        have ew : worthS (gA s1 77) N (itA σ N T k ti).r = worthS (gA σ 15) N (itA σ N T k ti).r := fo_cong N 0 0 (fun j b h1 h2 => by rw [(fa j (by omega)).2.2.1])
        by_cases w0 : w = 0
        · rw [if_pos w0, if_pos w0, Fo_rightings, Sh_rightings, bindV_some, Sh_rightings, bindV_some, bindV_some, fc, vw_gF v1 (by rfl), Int32.add_comm, Int32.add_sub_cancel]
        · by_cases w1 : w = 1
          · rw [if_neg w0, if_neg w0, if_pos w1, if_pos w1, Fo_holds, holds67 f1' n7 hfu, bindV_some, bindV_some, fr, ew]
          · rw [if_neg w0, if_neg w0, if_neg w1, if_neg w1, Fo_seed, bindV_some, fs]
  · have hw3 : 2 < w := Int32.not_le.mp hw2
    exact ⟨-102, σ, σ, by rw [Co_centuries, if_neg ha1, if_neg ha6, if_neg hb, if_neg hw0, if_neg hw2], by show Mo_centuries fu σ a b w = _; rw [Mo_centuries, within_is, bindV_some, haa, if_neg (by decide), if_neg hb, within_is, bindV_some, if_neg]; simp [hw3, b2], hI⟩
