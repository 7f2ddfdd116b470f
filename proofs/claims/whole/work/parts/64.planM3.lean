/-! THE PLAN: the model's way through the rows -/
def repM (l2 l3 : Int32) (s : Sg) (N : Nat) (B : Option (Int32 × Int32 × (Nat → Nat))) : Prop := (∀ i, N ≤ i → i < 7 → gA s 103 i = 0) ∧ match B with
  | none => l2 = -1
  | some (h, p, row) => l2 = h ∧ l3 = p ∧ ∀ i, i < N → gA s 103 i = nI (row i)
theorem repM_of {l2 l3 : Int32} {s s' : Sg} {N : Nat} {B : Option (Int32 × Int32 × (Nat → Nat))} (h3 : gA s' 103 = gA s 103) (h : repM l2 l3 s N B) : repM l2 l3 s' N B := by
  obtain ⟨h0, h⟩ := h
  refine ⟨fun i q1 q2 => by rw [h3]; exact h0 i q1 q2, ?_⟩
  cases B with
  | none => exact h
  | some x =>
    obtain ⟨g, p, row⟩ := x
    obtain ⟨q1, q2, q3⟩ := h
    exact ⟨q1, q2, fun i hi => by rw [h3]; exact q3 i hi⟩
theorem planL89 {σ s : Sg} {N fu : Nat} (hfu : 1000 ≤ fu) (hN7 : N ≤ 7) (hn : gF σ 91 2 = nI N) {row : Nat → Nat} (v : vw s = vw σ) (hr : rowM s N row) (l1 x y : Int32) (K : Int32 → Sg → Option (Int32 × Sg)) : ∃ s', Mo_planNow_L89 fu l1 x y K fu (0 : Int32) s = K (nI N) s' ∧ vw s' = vw σ ∧ rowM s' N row ∧ (∀ i, i < N → gA s' 103 i = nI (row i)) ∧ ∀ i, N ≤ i → gA s' 103 i = gA s 103 i := by
  obtain ⟨s', ⟨v', r', c', k'⟩, e'⟩ := loop_ex (N := N) (L := fun n (s : Sg) i => Mo_planNow_L89 fu l1 x y K n i s) (kont := fun s i => K i s) (fun i s' => vw s' = vw σ ∧ rowM s' N row ∧ (∀ j, j < i → gA s' 103 j = nI (row j)) ∧ ∀ j, N ≤ j → gA s' 103 j = gA s 103 j) (by
    rintro n s' i hi ⟨v, q1, q2, q3⟩
    have hin : inb (nI i) 7 = true := inb_nI (by omega) (by decide)
    refine ⟨sA s' 103 i (nI (row i)), ?_, by rw [vw_sA (by rfl)]; exact v, fun j hj => by rw [gA_sA_other (by decide)]; exact q1 j hj, fun j hj => ?_, fun j hj => ?_⟩
    · show Mo_planNow_L89 fu l1 x y K (n + 1) (nI i) s' = _
      rw [Mo_planNow_L89, vw_gF v (by rfl), hn, if_neg (nI_ge hi (by omega)), if_pos hin, if_pos hin, ix_nI (by omega), q1 i hi, nI_1]
    · rw [gA_sA_same]
      show (if j = i then nI (row i) else gA s' 103 j) = _
      by_cases q : j = i
      · rw [if_pos q, q]
      · rw [if_neg q]; exact q2 j (by omega)
    · rw [gA_sA_same]
      show (if j = i then nI (row i) else gA s' 103 j) = _
      rw [if_neg (by omega)]
      exact q3 j hj) (by
    rintro n s' ⟨v, -⟩
    show Mo_planNow_L89 fu l1 x y K (n + 1) (nI N) s' = _
    rw [Mo_planNow_L89, vw_gF v (by rfl), hn, if_pos (Int32.le_refl _)]) N fu s 0 (Nat.zero_add _) (by omega) ⟨v, hr, fun j hj => absurd hj (by omega), fun _ _ => rfl⟩
  exact ⟨s', e', v', r', c', k'⟩
theorem plan_eval {σ s : Sg} {N T fu n : Nat} (hfu : 1000 ≤ fu) (i2 : I2 σ N) (hN7 : N ≤ 7) (hn : gF σ 91 2 = nI N) (ht : gF σ 91 1 = nI T) (hT3 : T ≤ 3) {row : Nat → Nat} (hrow : ∀ j, j < N → row j ≤ T) (v : vw s = vw σ) (hr : rowM s N row) {l1 l2 l3 : Int32} {B : Option (Int32 × Int32 × (Nat → Nat))} (hB : repM l2 l3 s N B) (kont : Int32 → Int32 → Int32 → Sg → Option (Int32 × Sg)) :
    ∃ s' l2' l3', Mo_planNow_L36 fu l1 kont (n + 1) l2 l3 1 s = (bindP (Mo_nextRow fu s') fun r s'' => Mo_planNow_L36 fu l1 kont n l2' l3' r s'') ∧ vw s' = vw σ ∧ rowM s' N row ∧ repM l2' l3' s' N (EE (opA σ) (coA σ) (gA σ 21) (gA σ 15) N T 0 N (pe (opA σ) (coA σ) (gA σ 21) (a0S σ) row N) row B) := by
  obtain ⟨s6, e6, v6, r6, g6, h6⟩ := canBe_row hfu i2 hN7 hn ht hT3 hrow v hr
  have hB6 : repM l2 l3 s6 N B := repM_of g6 hB
  rw [Mo_planNow_L36, if_neg (by decide), e6, bindP_some]
  cases hp : pe (opA σ) (coA σ) (gA σ 21) (a0S σ) row N with
  | none =>
    rw [if_pos (by rfl)]
    exact ⟨s6, l2, l3, rfl, v6, r6, hB6⟩
  | some a =>
    obtain ⟨f25, f26⟩ := h6 a hp
    have hw : Mo_worthIn fu s6 (gF s6 91 25) = some (worthS (gA σ 15) N a.r) := by
      rw [Mo_worthIn_is (N := N) (by rw [vw_gF v6 (by rfl)]; exact hn) hN7 hfu, vw_gA (k := 96) v6 (by rfl), f25, ← i2.1.2.2.2.2.1]
    rw [if_neg (show ¬ b2 (some a).isSome = 0 from fun z => by cases z), hw, bindV_some, f26]
    show ∃ s' l2' l3', _ ∧ _ ∧ _ ∧ repM l2' l3' s' N (upB B (worthS (gA σ 15) N a.r) a.s row)
    have hup : btr B (worthS (gA σ 15) N a.r) a.s = true → ∃ s' l2' l3', (Mo_planNow_L89 fu l1 (worthS (gA σ 15) N a.r) a.s (fun l6_13 s14 => bindP (Mo_nextRow fu s14) fun r15 s16 => Mo_planNow_L36 fu l1 kont n (worthS (gA σ 15) N a.r) a.s r15 s16) fu (0 : Int32) s6) = (bindP (Mo_nextRow fu s') fun r s'' => Mo_planNow_L36 fu l1 kont n l2' l3' r s'') ∧ vw s' = vw σ ∧ rowM s' N row ∧ repM l2' l3' s' N (upB B (worthS (gA σ 15) N a.r) a.s row) := by
      intro hb
      obtain ⟨s', e', v', r', c', k'⟩ := planL89 hfu hN7 hn v6 r6 l1 (worthS (gA σ 15) N a.r) a.s (fun l6_13 s14 => bindP (Mo_nextRow fu s14) fun r15 s16 => Mo_planNow_L36 fu l1 kont n (worthS (gA σ 15) N a.r) a.s r15 s16)
      refine ⟨s', _, _, e', v', r', ?_⟩
      rw [upB, hb, ifT]
      exact ⟨fun i q1 q2 => by rw [k' i q1]; exact hB6.1 i q1 q2, rfl, rfl, c'⟩
    have hno : btr B (worthS (gA σ 15) N a.r) a.s = false → ∃ s' l2' l3', (bindP (Mo_nextRow fu s6) fun r8 s9 => Mo_planNow_L36 fu l1 kont n l2 l3 r8 s9) = (bindP (Mo_nextRow fu s') fun r s'' => Mo_planNow_L36 fu l1 kont n l2' l3' r s'') ∧ vw s' = vw σ ∧ rowM s' N row ∧ repM l2' l3' s' N (upB B (worthS (gA σ 15) N a.r) a.s row) := by
      intro hb
      rw [upB, hb, ifF]
      exact ⟨s6, l2, l3, rfl, v6, r6, hB6⟩
    obtain ⟨p, q, e1, e2, e3, e4⟩ := worth_mono (wo := gA σ 15) (a := a.r) (b := a.r) hN7 (fun j hj => i2.2.1.2.2.2.2.1 j (by omega)) (fun _ _ z => z)
    cases B with
    | none =>
      have h2 : l2 = -1 := hB6.2
      have hlt : l2 < worthS (gA σ 15) N a.r := by
        rw [h2, e1, Int32.lt_iff_toInt_lt, nI_toInt (by omega), show ((-1 : Int32)).toInt = -1 by decide]
        omega
      rw [if_pos hlt]
      exact hup rfl
    | some x =>
      obtain ⟨h, pp, rw0⟩ := x
      have h2 : l2 = h := hB6.2.1
      have h3 : l3 = pp := hB6.2.2.1
      have hbt : btr (some (h, pp, rw0)) (worthS (gA σ 15) N a.r) a.s = (decide (h < worthS (gA σ 15) N a.r) || (decide (h = worthS (gA σ 15) N a.r) && decide (a.s < pp))) := rfl
      by_cases q1 : l2 < worthS (gA σ 15) N a.r
      · rw [if_pos q1]
        exact hup (by rw [hbt, ← h2]; simp [q1])
      · rw [if_neg q1]
        by_cases q2 : worthS (gA σ 15) N a.r = l2
        · rw [if_neg (fun z => z q2)]
          by_cases q3 : l3 ≤ a.s
          · have : ¬ a.s < pp := by rw [← h3]; exact Int32.not_lt.mpr q3
            rw [if_pos q3]
            exact hno (by rw [hbt, ← h2]; simp [q1, this])
          · have : a.s < pp := by rw [← h3]; exact Int32.not_le.mp q3
            rw [if_neg q3]
            exact hup (by rw [hbt, ← h2, q2]; simp [this])
        · rw [if_pos q2]
          have : ¬ l2 = worthS (gA σ 15) N a.r := fun z => q2 z.symm
          exact hno (by rw [hbt, ← h2]; simp [q1, this])
theorem EE_fold (op : Nat → Int32 → Bool) (co bl wo : Nat → Int32) (N T m i : Nat) (st : Option PS) (row : Nat → Nat) (B : Option (Int32 × Int32 × (Nat → Nat))) : EE op co bl wo N T (m + 1) i st row B = fo (fun d B => EE op co bl wo N T m (i + 1) (st.bind (stJ op co bl i d)) (setR row i d) B) (T + 1) 0 B := by
  cases st with
  | some a => rfl
  | none =>
    rw [EE_none]
    exact (fo_inv (fun _ b => b = B) (T + 1) 0 B rfl (fun d b _ _ hb => by
      show EE op co bl wo N T m (i + 1) (Option.bind none _) _ b = B
      rw [show Option.bind (none : Option PS) (stJ op co bl i d) = none from rfl, EE_none]
      exact hb)).symm
theorem planL36 {σ : Sg} {N T fu : Nat} (hfu : 1000 ≤ fu) (i2 : I2 σ N) (hN7 : N ≤ 7) (hn : gF σ 91 2 = nI N) (ht : gF σ 91 1 = nI T) (hT3 : T ≤ 3) (l1 : Int32) (kont : Int32 → Int32 → Int32 → Sg → Option (Int32 × Sg)) :
    ∀ m i (row : Nat → Nat) (B : Option (Int32 × Int32 × (Nat → Nat))) n l2 l3 (s : Sg), i + m = N → (∀ j, i ≤ j → j < N → row j = 0) → (∀ j, j < N → row j ≤ T) → vw s = vw σ → rowM s N row → repM l2 l3 s N B → (T + 1) ^ m ≤ n → ∃ s' l2' l3', Mo_planNow_L36 fu l1 kont n l2 l3 1 s = (bindP (Mo_nextRow fu s') fun r s'' => Mo_planNow_L36 fu l1 kont (n - (T + 1) ^ m) l2' l3' r s'') ∧ vw s' = vw σ ∧ (∀ j, j < N → gA s' 102 j = nI (if i ≤ j then T else row j)) ∧ repM l2' l3' s' N (EE (opA σ) (coA σ) (gA σ 21) (gA σ 15) N T m i (pe (opA σ) (coA σ) (gA σ 21) (a0S σ) row i) row B) := by
  intro m
  induction m with
  | zero =>
    intro i row B n l2 l3 s hi hz hrow v hr hB hfuel
    have hiN : i = N := by omega
    subst hiN
    rw [Nat.pow_zero] at hfuel ⊢
    obtain ⟨n, rfl⟩ : ∃ k, n = k + 1 := ⟨n - 1, by omega⟩
    obtain ⟨s', l2', l3', e, v', r', b'⟩ := plan_eval (n := n) (l1 := l1) hfu i2 hN7 hn ht hT3 hrow v hr hB kont
    exact ⟨s', l2', l3', e, v', fun j hj => by rw [if_neg (by omega)]; exact r' j hj, b'⟩
  | succ m ih =>
    intro i row B n l2 l3 s hi hz hrow v hr hB hfuel
    rw [EE_fold]
    have inner : ∀ k d (B : Option (Int32 × Int32 × (Nat → Nat))) n l2 l3 (s : Sg), d + k = T → vw s = vw σ → rowM s N (setR row i d) → repM l2 l3 s N B → (k + 1) * (T + 1) ^ m ≤ n → ∃ s' l2' l3', Mo_planNow_L36 fu l1 kont n l2 l3 1 s = (bindP (Mo_nextRow fu s') fun r s'' => Mo_planNow_L36 fu l1 kont (n - (k + 1) * (T + 1) ^ m) l2' l3' r s'') ∧ vw s' = vw σ ∧ (∀ j, j < N → gA s' 102 j = nI (if i ≤ j then T else row j)) ∧ repM l2' l3' s' N (fo (fun d B => EE (opA σ) (coA σ) (gA σ 21) (gA σ 15) N T m (i + 1) ((pe (opA σ) (coA σ) (gA σ 21) (a0S σ) row i).bind (stJ (opA σ) (coA σ) (gA σ 21) i d)) (setR row i d) B) (k + 1) d B) := by
      intro k
      induction k with
      | zero =>
        intro d B n l2 l3 s hd v hr hB hfuel
        rw [Nat.zero_add, Nat.one_mul] at hfuel ⊢
        obtain ⟨s', l2', l3', e, v', r', b'⟩ := ih (i + 1) (setR row i d) B n l2 l3 s (by omega) (fun j h1 h2 => by rw [setR, if_neg (by omega)]; exact hz j (by omega) h2) (fun j hj => by
          rw [setR]
          by_cases q : j = i
          · rw [if_pos q]; omega
          · rw [if_neg q]; exact hrow j hj) v hr hB hfuel
        refine ⟨s', l2', l3', e, v', fun j hj => ?_, ?_⟩
        · rw [r' j hj, setR]
          by_cases q : i + 1 ≤ j
          · rw [if_pos q, if_pos (by omega)]
          · rw [if_neg q]
            by_cases q2 : j = i
            · rw [if_pos q2, if_pos (by omega), show d = T by omega]
            · rw [if_neg q2, if_neg (by omega)]
        · rw [pe, pe_cong (row' := row) i (fun j hj => by rw [setR, if_neg (by omega)]), show setR row i d i = d from if_pos rfl] at b'
          exact b'
      | succ k ihk =>
        intro d B n l2 l3 s hd v hr hB hfuel
        have hmul : (k + 1 + 1) * (T + 1) ^ m = (k + 1) * (T + 1) ^ m + (T + 1) ^ m := Nat.succ_mul (k + 1) _
        rw [hmul] at hfuel ⊢
        obtain ⟨s', l2', l3', e, v', r', b'⟩ := ih (i + 1) (setR row i d) B n l2 l3 s (by omega) (fun j h1 h2 => by rw [setR, if_neg (by omega)]; exact hz j (by omega) h2) (fun j hj => by
          rw [setR]
          by_cases q : j = i
          · rw [if_pos q]; omega
          · rw [if_neg q]; exact hrow j hj) v hr hB (by omega)
        rw [pe, pe_cong (row' := row) i (fun j hj => by rw [setR, if_neg (by omega)]), show setR row i d i = d from if_pos rfl] at b'
        obtain ⟨s2, e2, v2, g2, r2⟩ := next_up hfu hN7 hn ht hT3 v' (show i < N by omega) (show d < T by omega) (fun j hj => r' j hj) (fun j h1 h2 => hz j (by omega) h2)
        obtain ⟨s3, m2, m3, e3, v3, r3, b3⟩ := ihk (d + 1) _ (n - (T + 1) ^ m) l2' l3' s2 (by omega) v2 r2 (repM_of g2 b') (by omega)
        refine ⟨s3, m2, m3, ?_, v3, r3, b3⟩
        rw [e, e2, bindP_some, e3, show n - (T + 1) ^ m - (k + 1) * (T + 1) ^ m = n - ((k + 1) * (T + 1) ^ m + (T + 1) ^ m) by omega]
    have hp : (T + 1) ^ (m + 1) = (T + 1) * (T + 1) ^ m := by rw [Nat.pow_succ, Nat.mul_comm]
    rw [hp] at hfuel ⊢
    exact inner T 0 B n l2 l3 s (by omega) v (fun j hj => by
      rw [hr j hj, setR]
      by_cases q : j = i
      · rw [if_pos q, hz j (by omega) hj]
      · rw [if_neg q]) hB hfuel
