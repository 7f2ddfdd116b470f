/-! THE PLAN: the search, abstract -/
/-- where a search stands: what is left at each tree, what is righted, what is spent -/
def PS : Type := (Nat → Int32) × Int32 × Int32
def PS.of (l : Nat → Int32) (r s : Int32) : PS := (l, r, s)
def PS.l (a : PS) : Nat → Int32 := a.1
def PS.r (a : PS) : Int32 := a.2.1
def PS.s (a : PS) : Int32 := a.2.2
/-- the best so far: nothing, or what it holds, what it spends, its row -/
def btr (B : Option (Int32 × Int32 × (Nat → Nat))) (w s : Int32) : Bool := match B with
  | none => true
  | some (h, p, _) => decide (h < w) || (decide (h = w) && decide (s < p))
def upB (B : Option (Int32 × Int32 × (Nat → Nat))) (w s : Int32) (row : Nat → Nat) : Option (Int32 × Int32 × (Nat → Nat)) := if btr B w s = true then some (w, s, row) else B
/-- one case's digit: none, or tree d less one -/
def stJ (op : Nat → Int32 → Bool) (co bl : Nat → Int32) (i d : Nat) (a : PS) : Option PS := if d = 0 then some a else if op i a.r = true ∧ ¬ a.l (d - 1) < co i then some (PS.of (fun u => if u = d - 1 then a.l u - co i else a.l u) ((a.r ||| bitI i) &&& (bl i ^^^ (-1))) (a.s + co i)) else none
def setR (row : Nat → Nat) (i d : Nat) : Nat → Nat := fun j => if j = i then d else row j
def EE (op : Nat → Int32 → Bool) (co bl wo : Nat → Int32) (N T : Nat) : Nat → Nat → Option PS → (Nat → Nat) → Option (Int32 × Int32 × (Nat → Nat)) → Option (Int32 × Int32 × (Nat → Nat))
  | _, _, none, _, B => B
  | 0, _, some a, row, B => upB B (worthS wo N a.r) a.s row
  | m + 1, i, some a, row, B => fo (fun d B => EE op co bl wo N T m (i + 1) (stJ op co bl i d a) (setR row i d) B) (T + 1) 0 B
theorem EE_none (op : Nat → Int32 → Bool) (co bl wo : Nat → Int32) (N T m i : Nat) (row : Nat → Nat) (B : Option (Int32 × Int32 × (Nat → Nat))) : EE op co bl wo N T m i none row B = B := by
  cases m <;> rfl
theorem upB_some (B : Option (Int32 × Int32 × (Nat → Nat))) (w s : Int32) (row : Nat → Nat) : ∃ x, upB B w s row = some x := by
  rw [upB]
  by_cases h : btr B w s = true
  · rw [if_pos h]; exact ⟨_, rfl⟩
  · rw [if_neg h]
    cases B with
    | none => exact absurd rfl h
    | some x => exact ⟨x, rfl⟩
theorem EE_keep (op : Nat → Int32 → Bool) (co bl wo : Nat → Int32) (N T : Nat) : ∀ m i st row (B : Option (Int32 × Int32 × (Nat → Nat))), (∃ x, B = some x) → ∃ x, EE op co bl wo N T m i st row B = some x := by
  intro m
  induction m with
  | zero =>
    intro i st row B hB
    cases st with
    | none => exact hB
    | some a => exact upB_some _ _ _ _
  | succ m ih =>
    intro i st row B hB
    cases st with
    | none => exact hB
    | some a =>
      exact fo_inv (fun _ B => ∃ x, B = some x) (T + 1) 0 B hB (fun j b _ _ hb => ih _ _ _ _ hb)
theorem EE_some (op : Nat → Int32 → Bool) (co bl wo : Nat → Int32) (N T : Nat) : ∀ m i (a : PS) row (B : Option (Int32 × Int32 × (Nat → Nat))), ∃ x, EE op co bl wo N T m i (some a) row B = some x := by
  intro m
  induction m with
  | zero => intro i a row B; exact upB_some _ _ _ _
  | succ m ih =>
    intro i a row B
    show ∃ x, fo (fun d B => EE op co bl wo N T m (i + 1) (stJ op co bl i d a) (setR row i d) B) (T + 1) 0 B = some x
    rw [fo]
    refine fo_inv (fun _ B => ∃ x, B = some x) T (0 + 1) _ ?_ (fun j b _ _ hb => EE_keep op co bl wo N T m _ _ _ _ hb)
    have e : stJ op co bl i 0 a = some a := if_pos rfl
    rw [e]
    exact ih (i + 1) a _ B
/-! the search without those that cannot better -/
theorem worth_mono {wo : Nat → Int32} {N : Nat} {a b : Int32} (hN : N ≤ 7) (hw : ∀ i, i < N → ∃ q, wo i = nI q ∧ q ≤ 9) (h : ∀ i, i < N → hasX a (nI i) = true → hasX b (nI i) = true) : ∃ p q, worthS wo N a = nI p ∧ worthS wo N b = nI q ∧ p ≤ q ∧ q ≤ 63 := by
  have key : ∀ n, n ≤ N → ∃ p q, fo (fun i x => x + (if hasX a (nI i) then wo i else 0)) n 0 0 = nI p ∧ fo (fun i x => x + (if hasX b (nI i) then wo i else 0)) n 0 0 = nI q ∧ p ≤ q ∧ q ≤ 9 * n := by
    intro n
    induction n with
    | zero => intro _; exact ⟨0, 0, rfl, rfl, Nat.le_refl 0, Nat.zero_le _⟩
    | succ n ih =>
      intro hn
      obtain ⟨p, q, e1, e2, e3, e4⟩ := ih (by omega)
      obtain ⟨v, v1, v2⟩ := hw n (by omega)
      rw [fo_succ, fo_succ, e1, e2, Nat.zero_add, v1]
      have hab := h n (by omega)
      cases ha : hasX a (nI n) with
      | false =>
        cases hb : hasX b (nI n) with
        | false => exact ⟨p, q, Int32.add_zero _, Int32.add_zero _, e3, by omega⟩
        | true => exact ⟨p, q + v, Int32.add_zero _, nI_add _ _, by omega, by omega⟩
      | true =>
        rw [hab ha]
        exact ⟨p + v, q + v, nI_add _ _, nI_add _ _, by omega, by omega⟩
  obtain ⟨p, q, e1, e2, e3, e4⟩ := key N (Nat.le_refl N)
  exact ⟨p, q, e1, e2, e3, by omega⟩
theorem btr_mono {B : Option (Int32 × Int32 × (Nat → Nat))} {w w' s s' : Int32} (hw : w' ≤ w) (hs : s ≤ s') (h : btr B w s = false) : btr B w' s' = false := by
  cases B with
  | none => cases h
  | some x =>
    obtain ⟨g, p, row⟩ := x
    have h1 : (decide (g < w) || (decide (g = w) && decide (s < p))) = false := h
    show (decide (g < w') || (decide (g = w') && decide (s' < p))) = false
    rw [Bool.or_eq_false_iff, Bool.and_eq_false_iff] at h1 ⊢
    simp only [decide_eq_false_iff_not, Int32.lt_iff_toInt_lt, ← Int32.toInt_inj] at h1 ⊢
    rw [Int32.le_iff_toInt_le] at hw hs
    omega
theorem neg_bits : ∀ i, i < 8 → ∀ j, j < 32 → bt (-bitI i) j = decide (i ≤ j) := by decide +kernel
theorem or_neg_bits {r : Int32} {i j : Nat} (hi : i < 8) (hj : j < 32) : bt (r ||| (-bitI i)) j = (bt r j || decide (i ≤ j)) := by
  rw [b_or, neg_bits i hi j hj]
/-- what the search takes for granted of a shire -/
def PG (co bl wo : Nat → Int32) (N : Nat) : Prop := N ≤ 7 ∧ (∀ i, i < N → ∃ q, co i = nI q ∧ q ≤ 18) ∧ (∀ i, i < N → ∃ q, wo i = nI q ∧ q ≤ 9) ∧ ∀ i, i < N → ∀ j, j ≤ i → bt (bl i) j = false
def top (wo : Nat → Int32) (N i : Nat) (r : Int32) : Int32 := worthS wo N (r ||| (-bitI i))
theorem top_leaf {co bl wo : Nat → Int32} {N : Nat} (g : PG co bl wo N) (r : Int32) : top wo N N r = worthS wo N r := by
  refine fo_cong N 0 0 (fun j b _ hj => ?_)
  have e : hasX (r ||| -bitI N) (nI j) = hasX r (nI j) := by
    have := g.1
    rw [hasX_bt _ (by omega), hasX_bt _ (by omega), or_neg_bits (by omega) (by omega)]
    have : decide (N ≤ j) = false := by rw [decide_eq_false_iff_not]; omega
    rw [this, Bool.or_false]
  rw [e]
theorem top_step {co bl wo : Nat → Int32} {N i d : Nat} {op : Nat → Int32 → Bool} {a a' : PS} (g : PG co bl wo N) (hi : i < N) (h : stJ op co bl i d a = some a') {q : Nat} (hs : a.s = nI q) (hq : q ≤ 18 * i) : top wo N (i + 1) a'.r ≤ top wo N i a.r ∧ a.s ≤ a'.s ∧ ∃ q', a'.s = nI q' ∧ q' ≤ 18 * (i + 1) := by
  obtain ⟨g1, g2, g3, g4⟩ := g
  rw [stJ] at h
  by_cases hd : d = 0
  · rw [if_pos hd] at h
    have e := Option.some.inj h
    subst e
    refine ⟨?_, Int32.le_refl _, q, hs, by omega⟩
    obtain ⟨x, y, e1, e2, e3, e4⟩ := worth_mono (a := a.r ||| -bitI (i + 1)) (b := a.r ||| -bitI i) g1 g3 (fun j hj hh => by
      rw [hasX_bt _ (by omega), or_neg_bits (by omega) (by omega)] at hh ⊢
      rw [Bool.or_eq_true] at hh ⊢
      rcases hh with hh | hh
      · exact Or.inl hh
      · right
        rw [decide_eq_true_eq] at hh ⊢
        omega)
    rw [top, top, e1, e2]
    exact (nI_leI (by omega) (by omega)).mpr e3
  · rw [if_neg hd] at h
    by_cases ho : op i a.r = true ∧ ¬ a.l (d - 1) < co i
    · rw [if_pos ho] at h
      have e := Option.some.inj h
      subst e
      obtain ⟨c, c1, c2⟩ := g2 i hi
      refine ⟨?_, ?_, q + c, ?_, by omega⟩
      · show top wo N (i + 1) ((a.r ||| bitI i) &&& (bl i ^^^ (-1))) ≤ _
        obtain ⟨x, y, e1, e2, e3, e4⟩ := worth_mono (a := ((a.r ||| bitI i) &&& (bl i ^^^ (-1))) ||| -bitI (i + 1)) (b := a.r ||| -bitI i) g1 g3 (fun j hj hh => by
          rw [hasX_bt _ (by omega), or_neg_bits (by omega) (by omega)] at hh ⊢
          by_cases hij : i ≤ j
          · simp [hij]
          · have h1 : decide (i + 1 ≤ j) = false := by rw [decide_eq_false_iff_not]; omega
            have h2 : bt (bitI i) j = false := by rw [b_bitI (by omega) (by omega), decide_eq_false_iff_not]; omega
            rw [h1, Bool.or_false, b_and, b_or, h2, Bool.or_false, Bool.and_eq_true] at hh
            rw [hh.1, Bool.true_or])
        rw [top, top, e1, e2]
        exact (nI_leI (by omega) (by omega)).mpr e3
      · show a.s ≤ a.s + co i
        rw [hs, c1, nI_add]
        exact (nI_leI (by omega) (by omega)).mpr (by omega)
      · show a.s + co i = _
        rw [hs, c1, nI_add]
    · rw [if_neg ho] at h
      cases h
theorem EE_cut {co bl wo : Nat → Int32} {N T : Nat} {op : Nat → Int32 → Bool} (g : PG co bl wo N) : ∀ m i (a : PS) row (B : Option (Int32 × Int32 × (Nat → Nat))) q, i + m = N → a.s = nI q → q ≤ 18 * i → btr B (top wo N i a.r) a.s = false → EE op co bl wo N T m i (some a) row B = B := by
  intro m
  induction m with
  | zero =>
    intro i a row B q hi hs hq h
    have hiN : i = N := by omega
    subst hiN
    rw [top_leaf g] at h
    show upB B (worthS wo i a.r) a.s row = B
    rw [upB, h, if_neg (by decide)]
  | succ m ih =>
    intro i a row B q hi hs hq h
    show fo (fun d B => EE op co bl wo N T m (i + 1) (stJ op co bl i d a) (setR row i d) B) (T + 1) 0 B = B
    refine fo_inv (fun _ b => b = B) (T + 1) 0 B rfl (fun d b _ _ hb => ?_)
    show EE op co bl wo N T m (i + 1) (stJ op co bl i d a) (setR row i d) b = B
    subst hb
    cases he : stJ op co bl i d a with
    | none => exact EE_none _ _ _ _ _ _ _ _ _ _
    | some a' =>
      obtain ⟨t1, t2, q', t3, t4⟩ := top_step g (by omega) he hs hq
      exact ih (i + 1) a' _ b q' (by omega) t3 t4 (btr_mono t1 t2 h)
