/-! A RIGHT TEXT IS READ to its end -/
def klet (x : Nat) : Nat := if x = 0 then 99 else if x = 1 then 109 else if x = 2 then 117 else if x = 3 then 111 else 97
def TXt (pg : Nat → Int32) (T : Nat) : Prop := ∀ i, i < T → (∃ b, b ≤ 9 ∧ pg (3 * i) = nI (48 + b)) ∧ ∃ d, d ≤ 9 ∧ pg (3 * i + 1) = nI (48 + d)
def TXc (pg : Nat → Int32) (T N : Nat) : Prop := ∀ k, k < N → (∃ x, x ≤ 4 ∧ pg (3 * T + 5 * k) = nI (klet x)) ∧ (∃ a, 1 ≤ a ∧ a ≤ 9 ∧ pg (3 * T + 5 * k + 1) = nI (48 + a)) ∧ (∃ a, 1 ≤ a ∧ a ≤ 9 ∧ pg (3 * T + 5 * k + 2) = nI (48 + a)) ∧ (pg (3 * T + 5 * k + 3) = 45 ∨ ∃ h, h < k ∧ pg (3 * T + 5 * k + 3) = nI (48 + h))
def TXs (pg : Nat → Int32) (T N : Nat) : Prop := (∀ i, i + 1 < T → pg (3 * i + 2) = 44) ∧ ∀ k, k + 1 < N → pg (3 * T + 5 * k + 4) = 44
theorem rd1 {σ s : Sg} {P fu n l p t k p' t' k' : Nat} {b : Bool} {c : Int32} (hcs : CS σ s p t k) (hP : gF σ 1 1 = nI P) (hP46 : P ≤ 46) (hl : l < P) (hn : 0 < n) (hc : gA σ 3 l = c) (ht : TK σ s c b p' t' k') (hb : b = true) : ∃ s', CS σ s' p' t' k' ∧ Rd_firstFault_L17 fu K0 n (nI l) s = Rd_firstFault_L17 fu K0 (n - 1) (nI (l + 1)) s' := by
  obtain ⟨s', e1, e2, e3⟩ := ht
  subst hb
  refine ⟨s', e3 rfl, ?_⟩
  rw [rd_in hcs.1 hP hP46 hl hn (by rw [hc]; exact e1), if_pos rfl]
theorem dig0 : ∀ b, b < 10 → dig (nI (48 + b)) 0 9 = true := by decide +kernel
theorem dig1 : ∀ b, b < 10 → 1 ≤ b → dig (nI (48 + b)) 1 9 = true := by decide +kernel
theorem digk : ∀ k, k < 8 → ∀ h, h < k → dig (nI (48 + h)) 0 (nI k - 1) = true := by decide +kernel
theorem klet_ok : ∀ x, x < 5 → (!(kIndex (nI (klet x)) == -1)) = true ∧ klet x < 127 ∧ 32 ≤ klet x ∧ kIndex (nI (klet x)) = nI x := by decide +kernel
theorem read_trees {σ : Sg} {P T fu : Nat} (hP : gF σ 1 1 = nI P) (hP46 : P ≤ 46) (hT3 : T ≤ 3) (hTP : 3 * T ≤ P) (h1 : TXt (gA σ 3) T) (h2 : ∀ i, i + 1 < T → gA σ 3 (3 * i + 2) = 44) (h3 : gA σ 3 (3 * T - 1) = 59) : ∀ d i s n, i + d + 1 = T → CS σ s 0 i 0 → 3 * d + 3 < n → ∃ s', CS σ s' 3 T 0 ∧ Rd_firstFault_L17 fu K0 n (nI (3 * i)) s = Rd_firstFault_L17 fu K0 (n - (3 * d + 3)) (nI (3 * T)) s' := by
  intro d
  induction d with
  | zero =>
    intro i s n hi hcs hn
    obtain ⟨⟨b, b1, b2⟩, ⟨d, d1, d2⟩⟩ := h1 i (by omega)
    obtain ⟨s1, c1, e1⟩ := rd1 (fu := fu) (n := n) hcs hP hP46 (show 3 * i < P by omega) (by omega) b2 (T0 hcs _) (dig0 b (by omega))
    obtain ⟨s2, c2, e2⟩ := rd1 (fu := fu) (n := n - 1) c1 hP hP46 (show 3 * i + 1 < P by omega) (by omega) d2 (T1 c1 _) (dig0 d (by omega))
    obtain ⟨s3, c3, e3⟩ := rd1 (fu := fu) (n := n - 1 - 1) c2 hP hP46 (show 3 * i + 1 + 1 < P by omega) (by omega) (show gA σ 3 (3 * i + 1 + 1) = 59 by rw [← h3]; congr 1; omega) (T2e c2) rfl
    refine ⟨s3, ?_, ?_⟩
    · rw [show T = i + 1 by omega]; exact c3
    · rw [e1, e2, e3, show 3 * i + 1 + 1 + 1 = 3 * T by omega, show n - 1 - 1 - 1 = n - (3 * 0 + 3) by omega]
  | succ d ih =>
    intro i s n hi hcs hn
    obtain ⟨⟨b, b1, b2⟩, ⟨f, d1, d2⟩⟩ := h1 i (by omega)
    obtain ⟨s1, c1, e1⟩ := rd1 (fu := fu) (n := n) hcs hP hP46 (show 3 * i < P by omega) (by omega) b2 (T0 hcs _) (dig0 b (by omega))
    obtain ⟨s2, c2, e2⟩ := rd1 (fu := fu) (n := n - 1) c1 hP hP46 (show 3 * i + 1 < P by omega) (by omega) d2 (T1 c1 _) (dig0 f (by omega))
    obtain ⟨s3, c3, e3⟩ := rd1 (fu := fu) (n := n - 1 - 1) c2 hP hP46 (show 3 * i + 1 + 1 < P by omega) (by omega) (h2 i (by omega)) (T2 c2 (by omega) (by decide)) (by rw [show decide (i + 1 < 3) = true by simp; omega]; rfl)
    obtain ⟨s4, c4, e4⟩ := ih (i + 1) s3 (n - 1 - 1 - 1) (by omega) c3 (by omega)
    refine ⟨s4, c4, ?_⟩
    rw [e1, e2, e3, show 3 * i + 1 + 1 + 1 = 3 * (i + 1) by omega, e4, show n - 1 - 1 - 1 - (3 * d + 3) = n - (3 * (d + 1) + 3) by omega]
theorem read_cases {σ : Sg} {P T N fu : Nat} (hP : gF σ 1 1 = nI P) (hP46 : P ≤ 46) (hN7 : N ≤ 7) (hPe : P + 1 = 3 * T + 5 * N) (h1 : TXc (gA σ 3) T N) (h2 : ∀ k, k + 1 < N → gA σ 3 (3 * T + 5 * k + 4) = 44) : ∀ d j s n, j + d + 1 = N → CS σ s 3 T j → 5 * d + 5 < n → ∃ s', CS σ s' 7 T N ∧ Rd_firstFault_L17 fu K0 n (nI (3 * T + 5 * j)) s = Rd_firstFault_L17 fu K0 (n - (5 * d + 4)) (nI P) s' := by
  intro d
  induction d with
  | zero =>
    intro j s n hj hcs hn
    obtain ⟨⟨x, x1, x2⟩, ⟨a, a1, a2, a3⟩, ⟨b, b1, b2, b3⟩, hh⟩ := h1 j (by omega)
    obtain ⟨k1, k2, -, -⟩ := klet_ok x (by omega)
    obtain ⟨s1, c1, e1⟩ := rd1 (fu := fu) (n := n) hcs hP hP46 (show 3 * T + 5 * j < P by omega) (by omega) x2 (T3 hcs k2) k1
    obtain ⟨s2, c2, e2⟩ := rd1 (fu := fu) (n := n - 1) c1 hP hP46 (show 3 * T + 5 * j + 1 < P by omega) (by omega) a3 (T45 (Or.inl rfl) c1 _) (dig1 a (by omega) a1)
    obtain ⟨s3, c3, e3⟩ := rd1 (fu := fu) (n := n - 1 - 1) c2 hP hP46 (show 3 * T + 5 * j + 1 + 1 < P by omega) (by omega) b3 (T45 (Or.inr rfl) c2 _) (dig1 b (by omega) b1)
    have hb : (gA σ 3 (3 * T + 5 * j + 1 + 1 + 1) == 45 || dig (gA σ 3 (3 * T + 5 * j + 1 + 1 + 1)) 0 (nI j - 1)) = true := by
      rcases hh with e | ⟨h, q1, e⟩
      · rw [show gA σ 3 (3 * T + 5 * j + 1 + 1 + 1) = 45 from e]; rfl
      · rw [show gA σ 3 (3 * T + 5 * j + 1 + 1 + 1) = nI (48 + h) from e, digk j (by omega) h q1, Bool.or_true]
    obtain ⟨s4, c4, e4⟩ := rd1 (fu := fu) (n := n - 1 - 1 - 1) c3 hP hP46 (show 3 * T + 5 * j + 1 + 1 + 1 < P by omega) (by omega) rfl (T6 c3 _) hb
    refine ⟨s4, ?_, ?_⟩
    · rw [show N = j + 1 by omega]; exact c4
    · rw [e1, e2, e3, e4, show 3 * T + 5 * j + 1 + 1 + 1 + 1 = P by omega, show n - 1 - 1 - 1 - 1 = n - (5 * 0 + 4) by omega]
  | succ d ih =>
    intro j s n hj hcs hn
    obtain ⟨⟨x, x1, x2⟩, ⟨a, a1, a2, a3⟩, ⟨b, b1, b2, b3⟩, hh⟩ := h1 j (by omega)
    obtain ⟨k1, k2, -, -⟩ := klet_ok x (by omega)
    obtain ⟨s1, c1, e1⟩ := rd1 (fu := fu) (n := n) hcs hP hP46 (show 3 * T + 5 * j < P by omega) (by omega) x2 (T3 hcs k2) k1
    obtain ⟨s2, c2, e2⟩ := rd1 (fu := fu) (n := n - 1) c1 hP hP46 (show 3 * T + 5 * j + 1 < P by omega) (by omega) a3 (T45 (Or.inl rfl) c1 _) (dig1 a (by omega) a1)
    obtain ⟨s3, c3, e3⟩ := rd1 (fu := fu) (n := n - 1 - 1) c2 hP hP46 (show 3 * T + 5 * j + 1 + 1 < P by omega) (by omega) b3 (T45 (Or.inr rfl) c2 _) (dig1 b (by omega) b1)
    have hb : (gA σ 3 (3 * T + 5 * j + 1 + 1 + 1) == 45 || dig (gA σ 3 (3 * T + 5 * j + 1 + 1 + 1)) 0 (nI j - 1)) = true := by
      rcases hh with e | ⟨h, q1, e⟩
      · rw [show gA σ 3 (3 * T + 5 * j + 1 + 1 + 1) = 45 from e]; rfl
      · rw [show gA σ 3 (3 * T + 5 * j + 1 + 1 + 1) = nI (48 + h) from e, digk j (by omega) h q1, Bool.or_true]
    obtain ⟨s4, c4, e4⟩ := rd1 (fu := fu) (n := n - 1 - 1 - 1) c3 hP hP46 (show 3 * T + 5 * j + 1 + 1 + 1 < P by omega) (by omega) rfl (T6 c3 _) hb
    obtain ⟨s5, c5, e5⟩ := rd1 (fu := fu) (n := n - 1 - 1 - 1 - 1) c4 hP hP46 (show 3 * T + 5 * j + 1 + 1 + 1 + 1 < P by omega) (by omega) (h2 j (by omega)) (T7 c4 (by omega) _) (by rw [show decide (j + 1 < 7) = true by simp; omega]; rfl)
    obtain ⟨s6, c6, e6⟩ := ih (j + 1) s5 (n - 1 - 1 - 1 - 1 - 1) (by omega) c5 (by omega)
    refine ⟨s6, c6, ?_⟩
    rw [e1, e2, e3, e4, e5, show 3 * T + 5 * j + 1 + 1 + 1 + 1 + 1 = 3 * T + 5 * (j + 1) by omega, e6, show n - 1 - 1 - 1 - 1 - 1 - (5 * d + 4) = n - (5 * (d + 1) + 4) by omega]
def TX (pg : Nat → Int32) (T N : Nat) : Prop := TXt pg T ∧ TXc pg T N ∧ TXs pg T N ∧ pg (3 * T - 1) = 59
theorem fault_ok {σ s : Sg} {P T N fu : Nat} (hfu : 1000 ≤ fu) (v : vw s = vw σ) (hP : gF σ 1 1 = nI P) (hT1 : 1 ≤ T) (hT3 : T ≤ 3) (hN1 : 1 ≤ N) (hN7 : N ≤ 7) (hPe : P + 1 = 3 * T + 5 * N) (h : TX (gA σ 3) T N) : ∃ s', Rd_firstFault fu s = some (nI P, s') ∧ CS σ s' 7 T N := by
  obtain ⟨h1, h2, ⟨h3, h4⟩, h5⟩ := h
  have hcs : CS σ (sF (sF (sF s 4 1 0) 4 2 0) 4 3 0) 0 0 0 := by
    refine ⟨?_, rfl, rfl, rfl⟩
    rw [vw_sF (by rfl), vw_sF (by rfl), vw_sF (by rfl)]
    exact v
  obtain ⟨s1, c1, e1⟩ := read_trees (fu := fu) hP (by omega) hT3 (by omega) h1 h3 h5 (T - 1) 0 _ fu (by omega) hcs (by omega)
  obtain ⟨s2, c2, e2⟩ := read_cases (fu := fu) hP (by omega) hN7 hPe h2 h4 (N - 1) 0 s1 (fu - (3 * (T - 1) + 3)) (by omega) c1 (by omega)
  refine ⟨s2, ?_, c2⟩
  rw [Rd_firstFault]
  refine (Eq.trans (Eq.trans e1 e2) ?_)
  exact rd_end c2.1 hP (by omega)
