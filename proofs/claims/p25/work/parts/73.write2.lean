/-! THE LAW WRITES A SHIRE: its cases -/
def kinE (x : Int32) : Option Int32 := if ¬ x = 0 then (if ¬ x = (1 : Int32) then (if ¬ x = (2 : Int32) then (if ¬ x = (3 : Int32) then (some (97 : Int32)) else (some (111 : Int32))) else (some (117 : Int32))) else (some (109 : Int32))) else (some (99 : Int32))
theorem kinE_is : ∀ x, x < 5 → kinE (nI x) = some (nI (klet x)) ∧ 32 ≤ klet x ∧ klet x ≤ 126 := by decide +kernel
def chain (j : Nat) (x : Int32) (F : Int32 → Sg → Option (Int32 × Sg)) (S : Sg) : Option (Int32 × Sg) :=
  bindV (kinE x) fun v42 => bindP (La_put S v42) fun r43 s44 => if r43 = 0 then F 0 s44 else (if inb (nI (11 + 5 * j)) (jv_ln 91) = true then (bindP (La_put s44 ((48 : Int32) + (gA s44 91 (11 + 5 * j)))) fun r46 s47 => if r46 = 0 then F 0 s47 else (if inb (nI (12 + 5 * j)) (jv_ln 91) = true then (bindP (La_put s47 ((48 : Int32) + (gA s47 91 (12 + 5 * j)))) fun r49 s50 => if r49 = 0 then F 0 s50 else (if inb (nI (13 + 5 * j)) (jv_ln 91) = true then (bindV (if 0 ≤ (gA s50 91 (13 + 5 * j)) then (if inb (nI (13 + 5 * j)) (jv_ln 91) = true then (some ((48 : Int32) + (gA s50 91 (13 + 5 * j)))) else none) else (some (45 : Int32))) fun v52 => bindP (La_put s50 v52) fun r53 s54 => if r53 = 0 then F 0 s54 else F 1 s54) else none)) else none)) else none)
def hcode (hv : Option Nat) : Nat := match hv with
  | none => 45
  | some h => 48 + h
def hval (hv : Option Nat) : Int32 := match hv with
  | none => -1
  | some h => nI h
theorem chain_is {S : Sg} {P j x a w : Nat} {hv : Option Nat} (F : Int32 → Sg → Option (Int32 × Sg)) (hP : gF S 1 1 = nI P) (h46 : P + 4 ≤ 46) (hj : j < 7) (hx : x < 5) (ha : a ≤ 9) (hw : w ≤ 9) (hh : ∀ h, hv = some h → h ≤ 9) (e1 : gA S 91 (11 + 5 * j) = nI a) (e2 : gA S 91 (12 + 5 * j) = nI w) (e3 : gA S 91 (13 + 5 * j) = hval hv) : chain j (nI x) F S = F 1 (putS (putS (putS (putS S P (klet x)) (P + 1) (48 + a)) (P + 1 + 1) (48 + w)) (P + 1 + 1 + 1) (hcode hv)) := by
  obtain ⟨k1, k2, k3⟩ := kinE_is x hx
  have c48 : ∀ a : Nat, (48 : Int32) + nI a = nI (48 + a) := fun a => nI_add 48 a
  have eh : (if 0 ≤ hval hv then (if inb (nI (13 + 5 * j)) (jv_ln 91) = true then (some ((48 : Int32) + hval hv)) else none) else (some (45 : Int32))) = some (nI (hcode hv)) ∧ 32 ≤ hcode hv ∧ hcode hv ≤ 126 := by
    cases hv with
    | none => exact ⟨by rw [hval, if_neg (by decide)]; rfl, by decide, by decide⟩
    | some h =>
      have := hh h rfl
      refine ⟨?_, by show 32 ≤ 48 + h; omega, by show 48 + h ≤ 126; omega⟩
      show (if 0 ≤ nI h then (if inb (nI (13 + 5 * j)) (jv_ln 91) = true then (some ((48 : Int32) + nI h)) else none) else (some (45 : Int32))) = some (nI (48 + h))
      rw [if_pos (show 0 ≤ nI h from (nI_leI (a := 0) (by omega) (by omega)).mpr (by omega)), if_pos (inW w91 (by omega)), c48]
  rw [chain, k1, bindV_some, La_put_S hP (by omega) k2 k3, bindP_some, if_neg (by decide), if_pos (inW w91 (by omega)), gA_putS (show 91 ≠ 3 by decide), e1, c48, La_put_S (gF_putS11 _ _ _) (by omega) (by omega) (by omega), bindP_some, if_neg (by decide), if_pos (inW w91 (by omega)), gA_putS (show 91 ≠ 3 by decide), gA_putS (show 91 ≠ 3 by decide), e2, c48, La_put_S (gF_putS11 _ _ _) (by omega) (by omega) (by omega), bindP_some, if_neg (by decide), if_pos (inW w91 (by omega)), gA_putS (show 91 ≠ 3 by decide), gA_putS (show 91 ≠ 3 by decide), gA_putS (show 91 ≠ 3 by decide), e3, eh.1, bindV_some, La_put_S (gF_putS11 _ _ _) (by omega) eh.2.1 eh.2.2, bindP_some, if_neg (by decide)]
def caF (s : Sg) (T k : Nat) : Prop := (∃ x, x < 5 ∧ gA s 3 (3 * T + 5 * k) = nI (klet x) ∧ gA s 91 (10 + 5 * k) = nI x) ∧ (∃ a, 1 ≤ a ∧ a ≤ 9 ∧ gA s 3 (3 * T + 5 * k + 1) = nI (48 + a) ∧ gA s 91 (11 + 5 * k) = nI a) ∧ (∃ a, 1 ≤ a ∧ a ≤ 9 ∧ gA s 3 (3 * T + 5 * k + 2) = nI (48 + a) ∧ gA s 91 (12 + 5 * k) = nI a) ∧ (∃ hv, (∀ h, hv = some h → h < k) ∧ gA s 3 (3 * T + 5 * k + 3) = nI (hcode hv) ∧ gA s 91 (13 + 5 * k) = hval hv) ∧ gA s 91 (14 + 5 * k) = 0
def PJ (T j : Nat) : Nat := if j = 0 then 3 * T else 3 * T + 5 * j - 1
def SI (σ : Sg) (T N j : Nat) (s : Sg) : Prop := HD σ T N s ∧ (gF s 1 1 = nI (PJ T j) ∧ pgOK (gA s 3) (PJ T j)) ∧ ((∀ i, i < T → trF s i) ∧ (∀ i, i + 1 < T → gA s 3 (3 * i + 2) = 44) ∧ gA s 3 (3 * T - 1) = 59) ∧ (∀ k, k < j → caF s T k) ∧ ∀ k, k + 1 < j → gA s 3 (3 * T + 5 * k + 4) = 44
theorem SI_next {σ s s' : Sg} {T N j x a w : Nat} {hv : Option Nat} (h : SI σ T N j s) (hT1 : 1 ≤ T) (hT3 : T ≤ 3) (hx : x < 5) (ha1 : 1 ≤ a) (ha : a ≤ 9) (hw1 : 1 ≤ w) (hw : w ≤ 9) (hh : ∀ h, hv = some h → h < j) (e1 : gF s' 0 9 = gF s 0 9) (e2 : gF s' 1 1 = nI (3 * T + 5 * j + 4)) (ep : pgOK (gA s' 3) (3 * T + 5 * j + 4)) (e3 : ∀ y, y < PJ T j → gA s' 3 y = gA s 3 y) (c0 : gA s' 3 (3 * T + 5 * j) = nI (klet x)) (c1 : gA s' 3 (3 * T + 5 * j + 1) = nI (48 + a)) (c2 : gA s' 3 (3 * T + 5 * j + 2) = nI (48 + w)) (c3 : gA s' 3 (3 * T + 5 * j + 3) = nI (hcode hv)) (c4 : 0 < j → gA s' 3 (3 * T + 5 * j - 1) = 44) (w0 : gA s' 91 (10 + 5 * j) = nI x) (w1 : gA s' 91 (11 + 5 * j) = nI a) (w2 : gA s' 91 (12 + 5 * j) = nI w) (w3 : gA s' 91 (13 + 5 * j) = hval hv) (w4 : gA s' 91 (14 + 5 * j) = 0) (wx : ∀ y, y < 10 + 5 * j → gA s' 91 y = gA s 91 y) : SI σ T N (j + 1) s' := by
  obtain ⟨⟨q0, q1, q2, q3, q4⟩, -, ⟨q5, q6, q7⟩, q8, q9⟩ := h
  have hPJ : 3 * T ≤ PJ T j ∧ ∀ k, k < j → 3 * T + 5 * k + 3 < PJ T j ∧ (k + 1 < j → 3 * T + 5 * k + 4 < PJ T j) := by
    rw [PJ]
    split
    · exact ⟨by omega, fun k hk => by omega⟩
    · exact ⟨by omega, fun k hk => ⟨by omega, fun _ => by omega⟩⟩
  have hP1 : PJ T (j + 1) = 3 * T + 5 * j + 4 := by rw [PJ, if_neg (by omega)]; omega
  refine ⟨⟨e1.trans q0, ?_, ?_, ?_, ?_⟩, ⟨by rw [e2, hP1], by rw [hP1]; exact ep⟩, ⟨fun i hi => ?_, fun i hi => ?_, ?_⟩, fun k hk => ?_, fun k hk => ?_⟩
  · rw [wx 0 (by omega), q1]
  · rw [wx 1 (by omega), q2]
  · rw [wx 2 (by omega), q3]
  · rw [wx 3 (by omega), q4]
  · obtain ⟨⟨b, b1, b2, b3⟩, ⟨d, d1, d2, d3⟩⟩ := q5 i hi
    have := hPJ.1
    exact ⟨⟨b, b1, by rw [e3 _ (by omega), b2], by rw [wx _ (by omega), b3]⟩, ⟨d, d1, by rw [e3 _ (by omega), d2], by rw [wx _ (by omega), d3]⟩⟩
  · have := hPJ.1
    rw [e3 _ (by omega)]
    exact q6 i hi
  · have := hPJ.1
    rw [e3 _ (by omega)]
    exact q7
  · by_cases e : k = j
    · subst e
      exact ⟨⟨x, hx, c0, w0⟩, ⟨a, ha1, ha, c1, w1⟩, ⟨w, hw1, hw, c2, w2⟩, ⟨hv, hh, c3, w3⟩, w4⟩
    · obtain ⟨⟨x', x1, x2, x3⟩, ⟨a', a1, a2, a3, a4⟩, ⟨b', b1, b2, b3, b4⟩, ⟨h', h1, h2, h3⟩, r1⟩ := q8 k (by omega)
      have := (hPJ.2 k (by omega)).1
      exact ⟨⟨x', x1, by rw [e3 _ (by omega), x2], by rw [wx _ (by omega), x3]⟩, ⟨a', a1, a2, by rw [e3 _ (by omega), a3], by rw [wx _ (by omega), a4]⟩, ⟨b', b1, b2, by rw [e3 _ (by omega), b3], by rw [wx _ (by omega), b4]⟩, ⟨h', h1, by rw [e3 _ (by omega), h2], by rw [wx _ (by omega), h3]⟩, by rw [wx _ (by omega), r1]⟩
  · by_cases e : k + 1 = j
    · rw [show 3 * T + 5 * k + 4 = 3 * T + 5 * j - 1 by omega]
      exact c4 (by omega)
    · rw [e3 _ ((hPJ.2 k (by omega)).2 (by omega))]
      exact q9 k (by omega)
theorem hang15 (v : Int32) (j : Nat) (hj : j < 7) : ∃ hv : Option Nat, (∀ h, hv = some h → h < j) ∧ (v &&& (15 : Int32)) - (v &&& (15 : Int32)) / nI (j + 1) * nI (j + 1) - 1 = hval hv := by
  obtain ⟨c, c1, c2⟩ := dig15 v (show 0 < j + 1 by omega) (by omega)
  rw [c2]
  cases c with
  | zero => exact ⟨none, fun h z => (by cases z), by decide⟩
  | succ c =>
    refine ⟨some c, fun h z => (by cases z; omega), ?_⟩
    show nI (c + 1) - nI 1 = nI c
    rw [pk_sub (by omega), Nat.add_sub_cancel]
theorem SI_step {σ s : Sg} {T N j fu n : Nat} (hT1 : 1 ≤ T) (hT3 : T ≤ 3) (hN7 : N ≤ 7) (hj : j < N) (h : SI σ T N j s) (l1 l2 l3 : Int32) (kont : Int32 → Int32 → Sg → Option (Int32 × Sg)) : ∃ s', La_shire_L189 fu 91 l1 l2 l3 kont (n + 1) 1 (nI j) s = La_shire_L189 fu 91 l1 l2 l3 kont n 1 (nI (j + 1)) s' ∧ SI σ T N (j + 1) s' := by
  have h' := h
  obtain ⟨⟨q0, q1, q2, q3, q4⟩, ⟨q5, q6⟩, -, -, -⟩ := h'
  obtain ⟨x, hx, ex⟩ := dig7 (l3 >>> (((3 : Int32) * nI j) &&& 31))
  obtain ⟨r, hr0, hr, er⟩ : ∃ r, 0 < r ∧ r ≤ 9 ∧ (if ¬ (l1 - l1 / (4 : Int32) * (4 : Int32)) = 0 then (some (4 : Int32)) else (some (9 : Int32))) = some (nI r) := by
    by_cases z : (l1 - l1 / (4 : Int32) * (4 : Int32)) = 0
    · exact ⟨9, by decide, by decide, by rw [if_neg (not_not_intro z)]; rfl⟩
    · exact ⟨4, by decide, by decide, by rw [if_pos z]; rfl⟩
  obtain ⟨a, ha, ea⟩ := dig15 (l2 >>> (((3 : Int32) + ((3 : Int32) * nI j)) &&& 31)) hr0 (by omega)
  obtain ⟨w, hw, ew⟩ := dig15 (l3 >>> (((7 : Int32) + ((2 : Int32) * nI j)) &&& 31)) (show 0 < 9 by decide) (by decide)
  obtain ⟨hv, hh, eh⟩ := hang15 (l1 >>> (((3 : Int32) + ((3 : Int32) * nI j)) &&& 31)) j (by omega)
  have ew' : ((l3 >>> (((7 : Int32) + ((2 : Int32) * nI j)) &&& 31)) &&& (15 : Int32)) - ((l3 >>> (((7 : Int32) + ((2 : Int32) * nI j)) &&& 31)) &&& (15 : Int32)) / (9 : Int32) * (9 : Int32) = nI w := ew
  have c1 : ∀ a : Nat, (1 : Int32) + nI a = nI (1 + a) := fun a => nI_add 1 a
  rw [La_shire_L189, if_pos (in1 w91), ix1, q2, if_neg (nI_ge hj (by omega)), a10, bindV_some, ex, bindV_some, x1, x2, x3, x4, nI_1 j, if_pos (inW w91 (by omega)), ixW (show 10 + 5 * j < 45 by omega), bindV_some, er, bindV_some, if_neg (nI_ne0 hr0 (by omega)), if_pos (inW w91 (by omega)), ixW (show 11 + 5 * j < 45 by omega), ea, c1, bindV_some, if_pos (inW w91 (by omega)), ixW (show 12 + 5 * j < 45 by omega), ew', c1, bindV_some, if_neg (nI_ne0 (by omega) (by omega)), if_pos (inW w91 (by omega)), ixW (show 13 + 5 * j < 45 by omega), eh, bindV_some, if_pos (inW w91 (by omega)), ixW (show 14 + 5 * j < 45 by omega), bindV_some, if_neg (show ¬ (1 : Int32) = 0 by decide)]
  generalize hS : sA (sA (sA (sA (sA s 91 (10 + 5 * j) (nI x)) 91 (11 + 5 * j) (nI (1 + a))) 91 (12 + 5 * j) (nI (1 + w))) 91 (13 + 5 * j) (hval hv)) 91 (14 + 5 * j) 0 = S
  have ww : ∀ y, gA S 91 y = if y = 14 + 5 * j then 0 else if y = 13 + 5 * j then hval hv else if y = 12 + 5 * j then nI (1 + w) else if y = 11 + 5 * j then nI (1 + a) else if y = 10 + 5 * j then nI x else gA s 91 y := by
    intro y
    rw [← hS, gA_sA, gA_sA, gA_sA, gA_sA, gA_sA]
    simp only [true_and]
  have w3 : gA S 3 = gA s 3 := by rw [← hS]; rfl
  have wF : gF S = gF s := by rw [← hS]; rfl
  have v0 : gA S 91 (10 + 5 * j) = nI x := by rw [ww, if_neg (by omega), if_neg (by omega), if_neg (by omega), if_neg (by omega), if_pos rfl]
  have v1 : gA S 91 (11 + 5 * j) = nI (1 + a) := by rw [ww, if_neg (by omega), if_neg (by omega), if_neg (by omega), if_pos rfl]
  have v2 : gA S 91 (12 + 5 * j) = nI (1 + w) := by rw [ww, if_neg (by omega), if_neg (by omega), if_pos rfl]
  have v3 : gA S 91 (13 + 5 * j) = hval hv := by rw [ww, if_neg (by omega), if_pos rfl]
  have v4 : gA S 91 (14 + 5 * j) = 0 := by rw [ww, if_pos rfl]
  have vx : ∀ y, y < 10 + 5 * j → gA S 91 y = gA s 91 y := fun y hy => by rw [ww, if_neg (by omega), if_neg (by omega), if_neg (by omega), if_neg (by omega), if_neg (by omega)]
  have hc9 : ∀ h, hv = some h → h ≤ 9 := fun h z => by have := hh h z; omega
  have hcc : 32 ≤ hcode hv ∧ hcode hv ≤ 126 := by
    cases hv with
    | none => exact ⟨by decide, by decide⟩
    | some h => have := hh h rfl; exact ⟨by show 32 ≤ 48 + h; omega, by show 48 + h ≤ 126; omega⟩
  obtain ⟨-, kk1, kk2⟩ := kinE_is x hx
  show ∃ s', (if nI j = 0 then chain j (nI x) (fun f s => La_shire_L189 fu 91 l1 l2 l3 kont n f (nI (j + 1)) s) S else (bindP (La_put S (44 : Int32)) fun r61 s62 => if r61 = 0 then _ else chain j (nI x) (fun f s => La_shire_L189 fu 91 l1 l2 l3 kont n f (nI (j + 1)) s) s62)) = _ ∧ _
  by_cases h0 : j = 0
  · have hPJ : PJ T j = 3 * T + 5 * j := by rw [PJ, if_pos h0]; omega
    rw [hPJ] at q5 q6
    have p0 : gF S 1 1 = nI (3 * T + 5 * j) := by rw [wF]; exact q5
    have g0 : pgOK (gA S 3) (3 * T + 5 * j) := by rw [w3]; exact q6
    rw [if_pos (show nI j = 0 by rw [h0]; rfl), chain_is _ p0 (by omega) (by omega) hx (show 1 + a ≤ 9 by omega) (show 1 + w ≤ 9 by omega) hc9 v1 v2 v3]
    refine ⟨_, rfl, SI_next h hT1 hT3 hx (show 1 ≤ 1 + a by omega) (by omega) (show 1 ≤ 1 + w by omega) (by omega) hh ?_ rfl (pgOK_put (pgOK_put (pgOK_put (pgOK_put g0 (by omega) kk1 kk2) (by omega) (by omega) (by omega)) (by omega) (by omega) (by omega)) (by omega) hcc.1 hcc.2) (fun y hy => ?_) ?_ ?_ ?_ ?_ (fun z => by omega) ?_ ?_ ?_ ?_ ?_ ?_⟩
    · rw [gF_putS09, gF_putS09, gF_putS09, gF_putS09, wF]
    · rw [hPJ] at hy
      rw [gA_putS3, if_neg (by omega), gA_putS3, if_neg (by omega), gA_putS3, if_neg (by omega), gA_putS3, if_neg (by omega), w3]
    · rw [gA_putS3, if_neg (by omega), gA_putS3, if_neg (by omega), gA_putS3, if_neg (by omega), gA_putS3, if_pos rfl]
    · rw [gA_putS3, if_neg (by omega), gA_putS3, if_neg (by omega), gA_putS3, if_pos rfl]
    · rw [gA_putS3, if_neg (by omega), gA_putS3, if_pos rfl]
    · rw [gA_putS3, if_pos rfl]
    · rw [gA_putS (by decide), gA_putS (by decide), gA_putS (by decide), gA_putS (by decide), v0]
    · rw [gA_putS (by decide), gA_putS (by decide), gA_putS (by decide), gA_putS (by decide), v1]
    · rw [gA_putS (by decide), gA_putS (by decide), gA_putS (by decide), gA_putS (by decide), v2]
    · rw [gA_putS (by decide), gA_putS (by decide), gA_putS (by decide), gA_putS (by decide), v3]
    · rw [gA_putS (by decide), gA_putS (by decide), gA_putS (by decide), gA_putS (by decide), v4]
    · intro y hy
      rw [gA_putS (by decide), gA_putS (by decide), gA_putS (by decide), gA_putS (by decide), vx y hy]
  · have hPJ : PJ T j = 3 * T + 5 * j - 1 := by rw [PJ, if_neg h0]
    rw [hPJ] at q5 q6
    have p0 : gF S 1 1 = nI (3 * T + 5 * j - 1) := by rw [wF]; exact q5
    have g0 : pgOK (gA S 3) (3 * T + 5 * j - 1) := by rw [w3]; exact q6
    rw [if_neg (show ¬ nI j = 0 from nI_ne0 (by omega) (by omega)), show (44 : Int32) = nI 44 from rfl, La_put_S p0 (by omega) (by omega) (by omega), bindP_some, if_neg (by decide)]
    generalize hS1 : putS S (3 * T + 5 * j - 1) 44 = S1
    have p1 : gF S1 1 1 = nI (3 * T + 5 * j) := by rw [← hS1, gF_putS11, show 3 * T + 5 * j - 1 + 1 = 3 * T + 5 * j by omega]
    have g1 : pgOK (gA S1 3) (3 * T + 5 * j) := by
      have := pgOK_put (c := 44) g0 (by omega) (by omega) (by omega)
      rw [show 3 * T + 5 * j - 1 + 1 = 3 * T + 5 * j by omega, hS1] at this
      exact this
    have u91 : gA S1 91 = gA S 91 := by rw [← hS1, gA_putS (by decide)]
    have u3 : ∀ y, gA S1 3 y = if y = 3 * T + 5 * j - 1 then nI 44 else gA s 3 y := fun y => by rw [← hS1, gA_putS3, w3]
    have u09 : gF S1 0 9 = gF s 0 9 := by rw [← hS1, gF_putS09, wF]
    rw [chain_is _ p1 (by omega) (by omega) hx (show 1 + a ≤ 9 by omega) (show 1 + w ≤ 9 by omega) hc9 (by rw [u91]; exact v1) (by rw [u91]; exact v2) (by rw [u91]; exact v3)]
    refine ⟨_, rfl, SI_next h hT1 hT3 hx (show 1 ≤ 1 + a by omega) (by omega) (show 1 ≤ 1 + w by omega) (by omega) hh ?_ rfl (pgOK_put (pgOK_put (pgOK_put (pgOK_put g1 (by omega) kk1 kk2) (by omega) (by omega) (by omega)) (by omega) (by omega) (by omega)) (by omega) hcc.1 hcc.2) (fun y hy => ?_) ?_ ?_ ?_ ?_ (fun z => ?_) ?_ ?_ ?_ ?_ ?_ ?_⟩
    · rw [gF_putS09, gF_putS09, gF_putS09, gF_putS09, u09]
    · rw [hPJ] at hy
      rw [gA_putS3, if_neg (by omega), gA_putS3, if_neg (by omega), gA_putS3, if_neg (by omega), gA_putS3, if_neg (by omega), u3, if_neg (by omega)]
    · rw [gA_putS3, if_neg (by omega), gA_putS3, if_neg (by omega), gA_putS3, if_neg (by omega), gA_putS3, if_pos rfl]
    · rw [gA_putS3, if_neg (by omega), gA_putS3, if_neg (by omega), gA_putS3, if_pos rfl]
    · rw [gA_putS3, if_neg (by omega), gA_putS3, if_pos rfl]
    · rw [gA_putS3, if_pos rfl]
    · rw [gA_putS3, if_neg (by omega), gA_putS3, if_neg (by omega), gA_putS3, if_neg (by omega), gA_putS3, if_neg (by omega), u3, if_pos rfl]
      rfl
    · rw [gA_putS (by decide), gA_putS (by decide), gA_putS (by decide), gA_putS (by decide), u91, v0]
    · rw [gA_putS (by decide), gA_putS (by decide), gA_putS (by decide), gA_putS (by decide), u91, v1]
    · rw [gA_putS (by decide), gA_putS (by decide), gA_putS (by decide), gA_putS (by decide), u91, v2]
    · rw [gA_putS (by decide), gA_putS (by decide), gA_putS (by decide), gA_putS (by decide), u91, v3]
    · rw [gA_putS (by decide), gA_putS (by decide), gA_putS (by decide), gA_putS (by decide), u91, v4]
    · intro y hy
      rw [gA_putS (by decide), gA_putS (by decide), gA_putS (by decide), gA_putS (by decide), u91, vx y hy]
